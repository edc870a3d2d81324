/-! String.length and String.charAt of a literal: walked -/
theorem x_C.frame {l : Launch} {E : x_E} {B0 : Nat} {y : MethodName} {fr lo k n k' n' : Nat} {av : List Value} {Qw Qw' : Heap → Outcome → Heap → Prop} {Pw : Heap → Prop} (h : x_C l E B0 y fr lo k n k' n' av (fun _ => True) Qw) (hq : ∀ H o H', Pw H → Qw H o H' → Qw' H o H') : x_C l E B0 y fr lo k n k' n' av Pw Qw' := by
  intro p e ha hc hk s m args below hf happ hP hK
  obtain ⟨n0, o, h1, h2, h3, h4, h5⟩ := h p e ha hc hk s m args below hf happ ⟨hP.1, hP.2.1, trivial⟩ trivial
  exact ⟨n0, o, h1, h2, h3, hq _ _ _ hP.2.2 h4, h5⟩
abbrev j_ro (v : Option Value) : Heap → Outcome → Heap → Prop := fun H o H' => o = .returned v ∧ H' = H
section JS
variable {l : Launch} {E : x_E} {B0 : Nat}
theorem j_coder (fr lo k n : Nat) {i : Nat} (hi : i < zt_sl.length) : x_C l E B0 jy_coder fr lo k n 0 0 [.ref (E.2.2.2.1 i)] (fun _ => True) (j_ro (some (.int 0))) := by
  refine x_C.ofW (cc := jb_coder) (maxL := 1) (ret := some .byte) (by decide) jc_coder ?_
  intro p e s m below meth c B he _
  obtain ⟨hx, hb, hr, hlk, hml, hown, hnm, hts, hE⟩ := B
  have hv := hE.2.2.2.2.2.2.1.2
  have hM := hE.2.2.2.2.2.2.2
  have hS : va_S (x_A B0) s.heap s.heap [] := va_S.rf
  obtain ⟨-, hco, hva, hT⟩ := hv.1 i hi
  rw [lg_entry_eq]
  have hl := lv_entry ([.ref (E.2.2.2.1 i)]) (n := 1) (Nat.le_of_ble_eq_true rfl)
  generalize (lg_sl ([.ref (E.2.2.2.1 i)]) ++ List.replicate (1 - (lg_sl ([.ref (E.2.2.2.1 i)])).length) Slot.unset).toArray = ls at hl ⊢
  have hl : lv_has ls 1 [(0, .ref (E.2.2.2.1 i))] := hl
  refine va_gets hx hb hM.1.1 hS hown (hts _ jl_com) (fun _ h => h) jd_coder_0 ?_
  refine lv_if_eq hx hb jd_coder_3 (tgt := 13) rfl (fun h => absurd h (by decide)) (fun _ => ?_)
  refine lv_aload_n hx hb jd_coder_6 rfl (lv_at hl 0 rfl) ?_
  refine vk_getf hx hb hco hS hown (hts _ jl_cod) (fun _ h => h) jd_coder_7 ?_
  refine lv_goto hx hb jd_coder_10 (tgt := 14) rfl ?_
  exact x_zret hx hb hr hlk rfl hS (Nat.zero_le _) (Nat.zero_le _) ⟨rfl, rfl⟩ jd_coder_14
theorem j_lat (fr lo k n : Nat) {i : Nat} (hi : i < zt_sl.length) : x_C l E B0 jy_lat fr lo k n 0 0 [.ref (E.2.2.2.1 i)] (fun _ => True) (j_ro (some (.int 1))) := by
  refine x_C.ofW (cc := jb_lat) (maxL := 1) (ret := some .boolean) (by decide) jc_lat ?_
  intro p e s m below meth c B he _
  obtain ⟨hx, hb, hr, hlk, hml, hown, hnm, hts, hE⟩ := B
  have hv := hE.2.2.2.2.2.2.1.2
  have hM := hE.2.2.2.2.2.2.2
  have hS : va_S (x_A B0) s.heap s.heap [] := va_S.rf
  obtain ⟨-, hco, hva, hT⟩ := hv.1 i hi
  rw [lg_entry_eq]
  have hl := lv_entry ([.ref (E.2.2.2.1 i)]) (n := 1) (Nat.le_of_ble_eq_true rfl)
  generalize (lg_sl ([.ref (E.2.2.2.1 i)]) ++ List.replicate (1 - (lg_sl ([.ref (E.2.2.2.1 i)])).length) Slot.unset).toArray = ls at hl ⊢
  have hl : lv_has ls 1 [(0, .ref (E.2.2.2.1 i))] := hl
  refine va_gets hx hb hM.1.1 hS hown (hts _ jl_com) (fun _ h => h) jd_lat_0 ?_
  refine lv_if_eq hx hb jd_lat_3 (tgt := 17) rfl (fun h => absurd h (by decide)) (fun _ => ?_)
  refine lv_aload_n hx hb jd_lat_6 rfl (lv_at hl 0 rfl) ?_
  refine vk_getf hx hb hco hS hown (hts _ jl_cod) (fun _ h => h) jd_lat_7 ?_
  refine lv_if_ne hx hb jd_lat_10 (tgt := 17) rfl (fun h => absurd rfl h) (fun _ => ?_)
  refine lv_iconst (v := 1) hx hb jd_lat_13 (by decide) ?_
  refine lv_goto hx hb jd_lat_14 (tgt := 18) rfl ?_
  exact x_zret hx hb hr hlk (by decide) hS (Nat.zero_le _) (Nat.zero_le _) ⟨rfl, rfl⟩ jd_lat_18
theorem j_len {fr lo : Nat} (k n : Nat) (hfr : 1 ≤ fr) (hlo : 20 ≤ lo) {i : Nat} (hi : i < zt_sl.length) : x_C l E B0 jy_len fr lo k n 0 0 [.ref (E.2.2.2.1 i)] (fun _ => True) (j_ro (some (.int (Int32.ofNat (zt_sl.getD i 0))))) := by
  refine x_C.ofW (cc := jb_len) (maxL := 1) (ret := some .int) (by decide) jc_len ?_
  intro p e s m below meth c B he _
  obtain ⟨hx, hb, hr, hlk, hml, hown, hnm, hts, hE⟩ := B
  have hv := hE.2.2.2.2.2.2.1.2
  have hS : va_S (x_A B0) s.heap s.heap [] := va_S.rf
  have hrc := vk_recv hv hi hS
  obtain ⟨-, hco, hva, hT⟩ := hv.1 i hi
  rw [lg_entry_eq]
  have hl := lv_entry ([.ref (E.2.2.2.1 i)]) (n := 1) (Nat.le_of_ble_eq_true rfl)
  generalize (lg_sl ([.ref (E.2.2.2.1 i)]) ++ List.replicate (1 - (lg_sl ([.ref (E.2.2.2.1 i)])).length) Slot.unset).toArray = ls at hl ⊢
  have hl : lv_has ls 1 [(0, .ref (E.2.2.2.1 i))] := hl
  refine lv_aload_n hx hb jd_len_0 rfl (lv_at hl 0 rfl) ?_
  refine vk_getf hx hb hva hS hown (hts _ jl_val) (fun _ h => h) jd_len_1 ?_
  refine va_tlen hx hb hT hS rfl jd_len_4 ?_
  refine lv_aload_n hx hb jd_len_5 rfl (lv_at hl 0 rfl) ?_
  refine x_run (y := jy_coder) (As := [.ref (E.2.2.2.1 i)]) (rest := [.int (Int32.ofNat (zt_sl.getD i 0))]) (fun T hT X => x_goV (As := []) X hx (x_Is.of (hts _ jc_coder)) ⟨by decide, by decide, by decide +kernel⟩ hown (hts _ jm_coder) (hts _ ji_coder) (hts _ jse_coder) (by rw [hT]; exact hrc) rfl rfl rfl (by rw [hb]; exact jd_len_6)) (j_coder 0 0 0 0 hi) (x_Is.of (hts _ jc_coder)) (hts _ jn_S) hml hl.1 (Nat.le_of_ble_eq_true rfl) (by rw [hb]; exact jd_len_6) (by omega) (by omega) (by omega) (by omega) hts hE hS trivial ?_ ?_
  · intro v H' locs' hQ hsz hS'
    obtain ⟨hv', rfl⟩ := hQ
    cases hv'
    refine lv_ishr hx hb jd_len_9 ?_
    rw [sb_shr0]
    exact x_iret hx hb hr hlk hS' (Nat.le_refl _) (Nat.le_refl _) ⟨rfl, rfl⟩ jd_len_10
  · intro x H' locs' hQ hsz hS'
    cases hQ.1
theorem j_pre (fr lo k n : Nat) {i m : Int32} {v : Value} (hv : v.category = 1) (h0 : ¬ i < 0) (h1 : i < m) : x_C l E B0 jy_pre fr lo k n 0 0 [.int i, .int m, v] (fun _ => True) (j_ro (some (.int i))) := by
  refine x_C.ofW (cc := jb_pre) (maxL := 3) (ret := some .int) (by decide) jc_pre ?_
  intro p e s mm below meth c B he _
  obtain ⟨hx, hb, hr, hlk, hml, hown, hnm, hts, hE⟩ := B
  have hS : va_S (x_A B0) s.heap s.heap [] := va_S.rf
  rw [lg_entry_eq]
  have hl := lv_entry ([.int i, .int m, v]) (n := 3) (by rw [z_lgl]; simp [Value.category] at hv ⊢; omega)
  generalize (lg_sl ([.int i, .int m, v]) ++ List.replicate (3 - (lg_sl ([.int i, .int m, v])).length) Slot.unset).toArray = ls at hl ⊢
  have hl : lv_has ls 3 [(0, .int i), (1, .int m), (2, v)] := hl
  refine lv_iload_n hx hb jd_pre_0 rfl (lv_at hl 0 rfl) ?_
  refine lv_if_lt hx hb jd_pre_1 (tgt := 9) rfl (fun h => absurd h h0) (fun _ => ?_)
  refine lv_iload_n hx hb jd_pre_4 rfl (lv_at hl 0 rfl) ?_
  refine lv_iload_n hx hb jd_pre_5 rfl (lv_at hl 1 rfl) ?_
  refine lv_icmp_lt hx hb jd_pre_6 (tgt := 16) rfl (fun _ => ?_) (fun h => absurd h1 h)
  refine lv_iload_n hx hb jd_pre_16 rfl (lv_at hl 0 rfl) ?_
  exact x_iret hx hb hr hlk hS (Nat.zero_le _) (Nat.zero_le _) ⟨rfl, rfl⟩ jd_pre_17
theorem j_chk {fr lo : Nat} (k n : Nat) (hfr : 1 ≤ fr) (hlo : 22 ≤ lo) {i m : Int32} (h0 : ¬ i < 0) (h1 : i < m) : x_C l E B0 jy_chk fr lo k n 0 0 [.int i, .int m] (fun _ => True) (j_ro none) := by
  refine x_C.ofW (cc := jb_chk) (maxL := 2) (ret := none) (by decide) jc_chk ?_
  intro p e s mm below meth c B he _
  obtain ⟨hx, hb, hr, hlk, hml, hown, hnm, hts, hE⟩ := B
  have hM := hE.2.2.2.2.2.2.2
  have hS : va_S (x_A B0) s.heap s.heap [] := va_S.rf
  rw [lg_entry_eq]
  have hl := lv_entry ([.int i, .int m]) (n := 2) (Nat.le_of_ble_eq_true rfl)
  generalize (lg_sl ([.int i, .int m]) ++ List.replicate (2 - (lg_sl ([.int i, .int m])).length) Slot.unset).toArray = ls at hl ⊢
  have hl : lv_has ls 2 [(0, .int i), (1, .int m)] := hl
  refine lv_iload_n hx hb jd_chk_0 rfl (lv_at hl 0 rfl) ?_
  refine lv_iload_n hx hb jd_chk_1 rfl (lv_at hl 1 rfl) ?_
  have key : ∀ v : Value, v.category = 1 → W p l e (x_rm fr lo k n) s mm ([.int i, .int m] : List Value).toArray below meth c s.heap [] 0 0 (x_Q below s B0 0 0 (j_ro none)) (F0 mm 5 ls [v, .int m, .int i]) := by
    intro v hv
    refine x_run (y := jy_pre) (As := [.int i, .int m, v]) (rest := []) (fun T hT X => x_goS (n := 3) X hx (x_Is.of (hts _ jc_pre)) ⟨by decide, by decide, by decide +kernel⟩ hown (hts _ jm_pre) (hts _ js_pre) (hts _ jn_PC) rfl rfl rfl (by rw [hb]; exact jd_chk_5)) (j_pre 0 0 0 0 hv h0 h1) (x_Is.of (hts _ jc_pre)) (hts _ jn_PC) hml hl.1 (Nat.le_of_ble_eq_true rfl) (by rw [hb]; exact jd_chk_5) (by omega) (by omega) (by omega) (by omega) hts hE hS trivial ?_ ?_
    · intro v H' locs' hQ hsz hS'
      obtain ⟨hv', rfl⟩ := hQ
      cases hv'
      refine lv_pop hx hb jd_chk_8 rfl ?_
      exact x_vret hx hb hr hlk hS' (Nat.le_refl _) (Nat.le_refl _) ⟨rfl, rfl⟩ jd_chk_9
    · intro x H' locs' hQ hsz hS'
      cases hQ.1
  rcases hM.1.2 with hz | ⟨t, hz⟩
  · exact va_gets hx hb hz hS hown (hts _ jl_fmt) (fun _ h => h) jd_chk_2 (key _ rfl)
  · exact va_gets hx hb hz hS hown (hts _ jl_fmt) (fun _ h => h) jd_chk_2 (key _ rfl)
theorem j_byte : ∀ r ∈ zt_sb, ∀ v ∈ r, ((v &&& 255).toUInt32 % 65536).toInt32 = v ∧ narrow .char (.int v) = .int v := by decide +kernel
theorem j_sizes : ∀ i, i < zt_sl.length → (zt_sb.getD i []).length = zt_sl.getD i 0 ∧ zt_sl.getD i 0 < 1000 := by decide +kernel
theorem j_in {x : Int32} {n : Nat} (hn : n < 1000) (h : ¬ (x < 0 ∨ n ≤ x.toNatClampNeg)) : x < Int32.ofNat n := by
  obtain ⟨j, hj, rfl⟩ := vp_in_of (x := x) (n := n) h (by omega)
  exact nI_lt hj (by omega)
theorem j_mem {l : List Int32} {k : Nat} (h : k < l.length) : l.getD k 0 ∈ l := by
  rw [List.getD_eq_getElem?_getD, List.getElem?_eq_getElem h]
  exact List.getElem_mem h
theorem j_lca {fr lo : Nat} (k n : Nat) (hfr : 2 ≤ fr) (hlo : 60 ≤ lo) {i : Nat} (hi : i < zt_sl.length) {x : Int32} (hin : ¬ (x < 0 ∨ zt_sl.getD i 0 ≤ x.toNatClampNeg)) :
    x_C l E B0 jy_lca fr lo k n 0 0 [.ref (E.2.2.2.1 (2000 + i)), .int x] (fun _ => True) (j_ro (some (.int ((zt_sb.getD i []).getD x.toNatClampNeg 0)))) := by
  refine x_C.ofW (cc := jb_lca) (maxL := 2) (ret := some .char) (by decide) jc_lca ?_
  intro p e s mm below meth c B he _
  obtain ⟨hx, hb, hr, hlk, hml, hown, hnm, hts, hE⟩ := B
  have hv := hE.2.2.2.2.2.2.1.2
  have hS : va_S (x_A B0) s.heap s.heap [] := va_S.rf
  obtain ⟨-, hco, hva, hT⟩ := hv.1 i hi
  rw [lg_entry_eq]
  have hl := lv_entry ([.ref (E.2.2.2.1 (2000 + i)), .int x]) (n := 2) (Nat.le_of_ble_eq_true rfl)
  generalize (lg_sl ([.ref (E.2.2.2.1 (2000 + i)), .int x]) ++ List.replicate (2 - (lg_sl ([.ref (E.2.2.2.1 (2000 + i)), .int x])).length) Slot.unset).toArray = ls at hl ⊢
  have hl : lv_has ls 2 [(0, .ref (E.2.2.2.1 (2000 + i))), (1, .int x)] := hl
  have hsz := j_sizes i hi
  have hmem : (zt_sb.getD i []).getD x.toNatClampNeg 0 ∈ zt_sb.getD i [] := by
    have hlt : x.toNatClampNeg < (zt_sb.getD i []).length := by rw [hsz.1]; exact Nat.not_le.mp fun q => hin (Or.inr q)
    exact j_mem hlt
  have hrow : zt_sb.getD i [] ∈ zt_sb := by
    have hlt : i < zt_sb.length := hi
    rw [List.getD_eq_getElem?_getD, List.getElem?_eq_getElem hlt]
    exact List.getElem_mem hlt
  have hbyte := j_byte _ hrow _ hmem
  refine lv_iload_n hx hb jd_lca_0 rfl (lv_at hl 1 rfl) ?_
  refine lv_aload_n hx hb jd_lca_1 rfl (lv_at hl 0 rfl) ?_
  refine va_tlen hx hb hT hS rfl jd_lca_2 ?_
  refine x_run (y := jy_chk) (As := [.int x, .int (Int32.ofNat (zt_sl.getD i 0))]) (rest := []) (fun T hT X => x_goS (n := 2) X hx (x_Is.of (hts _ jc_chk)) ⟨by decide, by decide, by decide +kernel⟩ hown (hts _ jm_chk) (hts _ js_chk) (hts _ jn_S) rfl rfl rfl (by rw [hb]; exact jd_lca_3)) (j_chk (fr := 1) (lo := 22) 0 0 (Nat.le_refl _) (Nat.le_refl _) (fun z => hin (Or.inl z)) (j_in hsz.2 hin)) (x_Is.of (hts _ jc_chk)) (hts _ jn_S) hml hl.1 (Nat.le_of_ble_eq_true rfl) (by rw [hb]; exact jd_lca_3) (by omega) (by omega) (by omega) (by omega) hts hE hS trivial ?_ ?_
  · intro v H' locs' hQ hsz' hS'
    obtain ⟨hv', rfl⟩ := hQ
    cases hv'
    refine lv_aload_n hx hb jd_lca_6 rfl (lv_at hl 0 rfl) ?_
    refine lv_iload_n hx hb jd_lca_7 rfl (lv_at hl 1 rfl) ?_
    refine va_tb hx hb hT hS' hin rfl jd_lca_8 ?_
    refine lv_sipush (v := 255) hx hb jd_lca_9 (by decide) ?_
    refine lv_iand hx hb jd_lca_12 ?_
    refine lv_i2c hx hb jd_lca_13 hbyte.1 ?_
    exact x_zret hx hb hr hlk hbyte.2 hS' (Nat.le_refl _) (Nat.le_refl _) ⟨rfl, rfl⟩ jd_lca_14
  · intro x H' locs' hQ hsz' hS'
    cases hQ.1
theorem j_charAt {fr lo : Nat} (k n : Nat) (hfr : 3 ≤ fr) (hlo : 100 ≤ lo) {i : Nat} (hi : i < zt_sl.length) {x : Int32} (hin : ¬ (x < 0 ∨ zt_sl.getD i 0 ≤ x.toNatClampNeg)) :
    x_C l E B0 jy_charAt fr lo k n 0 0 [.ref (E.2.2.2.1 i), .int x] (fun _ => True) (j_ro (some (.int ((zt_sb.getD i []).getD x.toNatClampNeg 0)))) := by
  refine x_C.ofW (cc := jb_charAt) (maxL := 2) (ret := some .char) (by decide) jc_charAt ?_
  intro p e s mm below meth c B he _
  obtain ⟨hx, hb, hr, hlk, hml, hown, hnm, hts, hE⟩ := B
  have hv := hE.2.2.2.2.2.2.1.2
  have hS : va_S (x_A B0) s.heap s.heap [] := va_S.rf
  have hrc := vk_recv hv hi hS
  obtain ⟨-, hco, hva, hT⟩ := hv.1 i hi
  rw [lg_entry_eq]
  have hl := lv_entry ([.ref (E.2.2.2.1 i), .int x]) (n := 2) (Nat.le_of_ble_eq_true rfl)
  generalize (lg_sl ([.ref (E.2.2.2.1 i), .int x]) ++ List.replicate (2 - (lg_sl ([.ref (E.2.2.2.1 i), .int x])).length) Slot.unset).toArray = ls at hl ⊢
  have hl : lv_has ls 2 [(0, .ref (E.2.2.2.1 i)), (1, .int x)] := hl
  have hsz := j_sizes i hi
  have hmem : (zt_sb.getD i []).getD x.toNatClampNeg 0 ∈ zt_sb.getD i [] := by
    have hlt : x.toNatClampNeg < (zt_sb.getD i []).length := by rw [hsz.1]; exact Nat.not_le.mp fun q => hin (Or.inr q)
    exact j_mem hlt
  have hrow : zt_sb.getD i [] ∈ zt_sb := by
    have hlt : i < zt_sb.length := hi
    rw [List.getD_eq_getElem?_getD, List.getElem?_eq_getElem hlt]
    exact List.getElem_mem hlt
  have hbyte := j_byte _ hrow _ hmem
  refine lv_aload_n hx hb jd_charAt_0 rfl (lv_at hl 0 rfl) ?_
  refine x_run (y := jy_lat) (As := [.ref (E.2.2.2.1 i)]) (rest := []) (fun T hT X => x_goV (n := 0) (As := []) X hx (x_Is.of (hts _ jc_lat)) ⟨by decide, by decide, by decide +kernel⟩ hown (hts _ jm_lat) (hts _ ji_lat) (hts _ jse_lat) (by rw [hT]; exact hrc) rfl rfl rfl (by rw [hb]; exact jd_charAt_1)) (j_lat 0 0 0 0 hi) (x_Is.of (hts _ jc_lat)) (hts _ jn_S) hml hl.1 (Nat.le_of_ble_eq_true rfl) (by rw [hb]; exact jd_charAt_1) (by omega) (by omega) (by omega) (by omega) hts hE hS trivial ?_ ?_
  · intro v H' locs' hQ hsz' hS'
    obtain ⟨hv', rfl⟩ := hQ
    cases hv'
    refine lv_if_eq hx hb jd_charAt_4 (tgt := 16) rfl (fun h => absurd h (by decide)) (fun _ => ?_)
    refine lv_aload_n hx hb jd_charAt_7 rfl (lv_at hl 0 rfl) ?_
    refine vk_getf hx hb hva hS' hown (hts _ jl_val) (fun _ h => h) jd_charAt_8 ?_
    refine lv_iload_n hx hb jd_charAt_11 rfl (lv_at hl 1 rfl) ?_
    refine x_run (y := jy_lca) (As := [.ref (E.2.2.2.1 (2000 + i)), .int x]) (rest := []) (fun T hT X => x_goS (n := 2) X hx (x_Is.of (hts _ jc_lca)) ⟨by decide, by decide, by decide +kernel⟩ hown (hts _ jm_lca) (hts _ js_lca) (hts _ jn_SL) rfl rfl rfl (by rw [hb]; exact jd_charAt_12)) (j_lca (fr := 2) (lo := 60) 0 0 (Nat.le_refl _) (Nat.le_refl _) hi hin) (x_Is.of (hts _ jc_lca)) (hts _ jn_SL) hml hl.1 (Nat.le_of_ble_eq_true rfl) (by rw [hb]; exact jd_charAt_12) (by omega) (by omega) (by omega) (by omega) hts hE hS' trivial ?_ ?_
    · intro v H2 locs2 hQ hsz2 hS2
      obtain ⟨hv', rfl⟩ := hQ
      cases hv'
      exact x_zret hx hb hr hlk hbyte.2 hS2 (Nat.le_refl _) (Nat.le_refl _) ⟨rfl, rfl⟩ jd_charAt_15
    · intro x H2 locs2 hQ hsz2 hS2
      cases hQ.1
  · intro x H' locs' hQ hsz' hS'
    cases hQ.1
set_option maxHeartbeats 1000000 in
theorem z_Bi_ok (l : Launch) (E : x_E) (B0 : Nat) : z_Bi l E B0 := by
  intro b fr lo y as τ o τ' hy h
  have hw : ∀ v : Option Value, v.map (z_v E B0) = v → ∀ (H : Heap) (o' : Outcome) (H' : Heap), (z_AB E B0 τ.1 H ∧ H.size = B0 + τ.2.1) → j_ro v H o' H' → (z_End E B0 (.inl v) τ H' o' ∧ τ.2.2.1 ≤ τ.2.2.1 ∧ τ.2.2.2 ≤ τ.2.2.2) := by
    intro v hv H o' H' hP hQ
    obtain ⟨rfl, rfl⟩ := hQ
    exact ⟨⟨hP.1, hP.2, by show Outcome.returned v = .returned (v.map (z_v E B0)); rw [hv]⟩, Nat.le_refl _, Nat.le_refl _⟩
  unfold z_bi at h
  split at h
  · split at h
    · rename_i k hk
      cases h
      have hyn : zt_nm y = jy_len := by
        unfold zt_bi at hy
        split at hy
        · rename_i e1; subst e1; rfl
        · split at hy <;> cases hy
      rw [hyn, Nat.sub_self, Nat.sub_self]
      exact (j_len _ _ (by omega) (by omega) hk.2.2).frame (hw _ rfl)
    · cases h
  · split at h
    · rename_i k i hk
      cases h
      have hyn : zt_nm y = jy_charAt := by
        unfold zt_bi at hy
        split at hy
        · cases hy
        · split at hy
          · rename_i e1; subst e1; rfl
          · cases hy
      rw [hyn, Nat.sub_self, Nat.sub_self]
      exact (j_charAt _ _ (by omega) (by omega) hk.2.2.1 hk.2.2.2).frame (hw _ rfl)
    · cases h
  · cases h
end JS
