import java.util.Random;

/** All promises: runs of calls with texts from a fixed seed, each answer compared with the model's. */
public final class ModelTest {
    private static int good = 0;
    private static int bad = 0;
    private static int sames = 0;

    public static void main(String[] args) {
        int runs = args.length > 0 ? Integer.parseInt(args[0]) : 4000;
        for (int run = 0; run < runs; run++) {
            run(run);
        }
        System.out.println(good + " texts with a value, " + bad + " with an error, " + sames + " same");
        Check.due("enough values", good > runs, true);
        Check.due("enough errors", bad > runs, true);
        Check.due("enough same", sames > runs / 10, true);
        Check.end();
    }

    private static void run(int seed) {
        Random random = new Random(seed);
        RandomText texts = new RandomText(seed + 1000003L);
        Probe p = new Probe();
        Model m = new Model();
        for (int round = 0; round < 12; round++) {
            int slot = random.nextInt(2);
            if (random.nextInt(6) > 0) {
                type(p, m, texts.next());
            }
            String was = p.text();
            String answer = p.read(slot);
            Check.due("read of " + was, answer, m.read(slot));
            Check.due("fault of " + was, p.x.fault(), m.fault);
            count(answer);
            others(p, m, random);
            look(p, m, was);
        }
    }

    private static void type(Probe p, Model m, String text) {
        p.x.wipe();
        m.text = "";
        for (int i = 0; i < text.length(); i += 4) {
            int w = Probe.packed(text, i);
            Check.due("type(" + w + ")", String.valueOf(p.x.type(w)), m.type(w));
        }
    }

    private static void count(String answer) {
        if (Character.isDigit(answer.charAt(0))) {
            good++;
        } else {
            bad++;
        }
    }

    private static void others(Probe p, Model m, Random random) {
        int slot = random.nextInt(2);
        int k = random.nextInt(8) - 1;
        switch (random.nextInt(8)) {
            case 0:
                Check.due("pick", Probe.answer(() -> p.x.pick(slot, k)), m.pick(slot, k));
                break;
            case 1:
                p.x.swap();
                m.swap();
                break;
            case 2:
                int w = random.nextInt();
                Check.due("type(" + w + ")", String.valueOf(p.x.type(w)), m.type(w));
                break;
            case 3:
                int wrong = random.nextInt(9) - 4;
                Check.due("read(" + wrong + ")", p.read(wrong), m.read(wrong));
                break;
            default:
                String was = p.text();
                Check.due("write behind " + was, Probe.answer(() -> p.x.write(slot)), m.write(slot));
        }
    }

    private static void look(Probe p, Model m, String was) {
        Check.due("text behind " + was, p.text(), m.text);
        Check.due("same behind " + was, String.valueOf(p.x.same()), m.same());
        Check.due("fault behind " + was, p.x.fault(), m.fault);
        sames += p.x.same() && p.x.values(0) > 0 ? 1 : 0;
        for (int slot = 0; slot < 2; slot++) {
            int s = slot;
            Check.due("values behind " + was, String.valueOf(p.x.values(s)), m.values(s));
            for (int k = -1; k <= p.x.values(s); k++) {
                int v = k;
                Check.due("kind behind " + was, Probe.answer(() -> p.x.kind(s, v)), m.kind(s, v));
                Check.due("size behind " + was, Probe.answer(() -> p.x.size(s, v)), m.size(s, v));
                Check.due("number behind " + was, Probe.answer(() -> p.x.number(s, v)), m.number(s, v));
                for (int i = -1; i < 7; i++) {
                    int l = i;
                    Check.due("letter behind " + was, Probe.answer(() -> p.x.letter(s, v, l)), m.letter(s, v, l));
                }
            }
        }
    }
}
