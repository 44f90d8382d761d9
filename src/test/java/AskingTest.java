import java.util.ArrayList;
import java.util.Collections;
import java.util.List;
import java.util.Random;
import java.util.function.ToLongFunction;

/** Who asks changes nothing: what is answered does not hang on what was asked ahead of it. */
public final class AskingTest {
    private static final int HOUSES = 60;
    private static final int AT_ONCE = 450;

    public static void main(String[] args) {
        Random random = new Random(7);
        RandomHouses houses = new RandomHouses(random);
        int wrong = 0;
        for (int h = 0; h < HOUSES; h++) {
            String text = houses.good();
            long acts = random.nextLong();
            List<ToLongFunction<PepperPolicy>> all = questions();
            Collections.shuffle(all, random);
            PepperPolicy asked = told(text, acts);
            for (int i = 0; i < Math.min(AT_ONCE, all.size()); i++) {
                long got = all.get(i).applyAsLong(asked);
                long want = all.get(i).applyAsLong(told(text, acts));
                if (got != want) {
                    wrong++;
                    System.out.println("answered " + got + ", but " + want + " if nothing is asked ahead of it, in " + text);
                }
            }
        }
        System.out.println(wrong == 0 ? "asking changes nothing" : wrong + " answers are wrong");
        if (wrong != 0) System.exit(1);
    }

    private static PepperPolicy told(String text, long acts) {
        PepperPolicy x = Told.of(text);
        Random random = new Random(acts);
        for (int i = 0; i < 4; i++) {
            if (random.nextBoolean()) x.stifle(random.nextInt(6), random.nextInt(12));
            else x.sniff(random.nextInt(6), random.nextInt(12));
        }
        for (int slot = 0; slot < 3; slot++) {
            x.row(slot, slot, 2 * slot);
            for (int i = 0; i < slot; i++) {
                int person = random.nextInt(Math.max(1, x.count(5)));
                x.write(slot, 2 * i, person);
                x.write(slot, 2 * i + 1, Math.max(0, x.first(person)));
            }
        }
        return x;
    }

    private static List<ToLongFunction<PepperPolicy>> questions() {
        List<ToLongFunction<PepperPolicy>> all = new ArrayList<>();
        for (int k = 0; k < 7; k++) {
            int i = k;
            for (int l = 0; l < 4; l++) {
                int j = 3 * l;
                all.add(x -> x.tickle(i, j));
                all.add(x -> x.later(i, j));
                all.add(x -> x.rests(i, j / 3));
                all.add(x -> x.loses(i, j / 3, j / 3 % 2, i % 2));
                for (int what = 0; what < 2; what++) {
                    int w = what;
                    all.add(x -> x.chance(i, j, w));
                    all.add(x -> x.fair(i, j, w));
                    all.add(x -> x.risk(j, w));
                }
                all.add(x -> x.drawn(i + j, j / 3));
                all.add(x -> x.luck(100 * i, 1 + j, i));
            }
            all.addAll(List.of(x -> x.nose(i, i % 2), x -> x.policy(i, i), x -> x.beside(i), x -> x.dust(i), x -> x.sneezes(i),
                x -> x.first(i), x -> x.who(i), x -> x.itch(i), x -> x.caught(i), x -> x.gave(i)));
            all.addAll(List.of(x -> x.pause(i), x -> x.covered(i), x -> x.covers(i), x -> x.profit(i), x -> x.dull(i), x -> x.bears(i),
                x -> x.spreads(i), x -> x.web(i), x -> x.claim(i), x -> x.paid(i)));
            all.addAll(List.of(x -> x.money(i), x -> x.by(i), x -> x.takes(i), x -> x.gains(i), x -> x.price(i), x -> x.hold(i),
                x -> x.holds(i), x -> x.snuff(i), x -> x.frauds(i), x -> x.cut(i)));
            all.addAll(List.of(x -> x.which(i), x -> x.when(i), x -> x.gust(i), x -> x.ask(i), x -> x.leaves(i), x -> x.count(i),
                x -> x.count(i + 7)));
        }
        all.addAll(List.of(x -> x.all(), x -> x.worst(), x -> x.chorus(), x -> x.calm(), x -> x.naked(), x -> x.lowest(), x -> x.clean(),
            x -> x.claims(), x -> x.ruin(), x -> x.dear()));
        all.addAll(List.of(x -> x.reserve(), x -> x.law(), x -> x.cuts(), x -> x.fault(0), x -> x.fault(1)));
        return all;
    }
}
