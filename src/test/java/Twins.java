import java.util.ArrayList;
import java.util.List;
import java.util.function.Consumer;
import java.util.function.ToIntFunction;

/**
 * Two objects with one story; one of them gets a call that must be refused. Behind it both must answer alike in all that can
 * be asked: as it is, as the images and the text keep it, and as it goes on. Each look has new twins, since some looks change
 * what is so and an object is good for 512 calls.
 */
final class Twins {
    private static final String[] LOOKS = {"as it is", "image 0", "image 1", "the text", "as it goes on"};
    /** Minutes by which the sightings are told apart. */
    private static final int[] MINUTES = {0, 4, 9, 9999};

    private Twins() {
    }

    private static final String DAY = "pole 0 0 3;pole 10 0 1;pole 0 10 1;pole 50 60 3;"
        + "rope 0 1 10 99;rope 1 2 30 99;rope 0 2 30 20;rope 2 3 15 99;rope 0 3 20 99;"
        + "boy 0 9 5;boy 1 19 10;boy 0 50 5;boy 3 30 1;"
        + "load 0 1 1 7 plain;load 1 2 1 8 long;load 3 0 1 9 alive;load 0 3 2 5 level;";

    /**
     * A story in which all is in use. Behind it, at minute 6: boy 0 is at pole 1 and carries load 1; boy 1 is at pole 2; boy 2
     * waits on rope 0 for pole 1; boy 3 is on rope 4 towards pole 0, with 18 to go, and carries load 2; load 0 is delivered, load
     * 3 lies at pole 0; ropes 0 and 1 have a wear of 2, rope 2 is cut; ropes 2 and 3 are wet; there are 4 rings and 3 sightings;
     * both images are kept; the latest town() had a fault at byte 0, and another text is begun.
     */
    static void day(RopePost x) {
        Check.feed(x, DAY);
        x.town();
        x.seed(4711);
        x.take(0, 0);
        x.go(1, 1);
        x.go(0, 0);
        x.pass(2);
        x.keep(0);
        x.go(2, 0);
        x.pass(1);
        x.take(0, 1);
        x.pass(1);
        x.take(3, 2);
        x.go(3, 4);
        x.pass(2);
        x.keep(1);
        x.wet(2, true);
        x.wet(3, true);
        x.cut(2);
        x.see(0, 1, 2);
        x.see(1, 2, 3);
        x.see(3, 3, 0);
        x.feed(1, '?');
        x.town();
        Check.feed(x, "pole 9 8 2;");
    }

    /** A call that is refused in the day above. */
    static void refusedToday(String call, ToIntFunction<RopePost> wrongCall, int due) {
        refused(call, Twins::day, wrongCall, due);
    }

    static void refused(String call, Consumer<RopePost> story, ToIntFunction<RopePost> wrongCall, int due) {
        for (int look = 0; look < LOOKS.length; look++) {
            RopePost x = new RopePost(), twin = new RopePost();
            story.accept(x);
            story.accept(twin);
            Check.due(call, wrongCall.applyAsInt(x), due);
            same(call + " refused, " + LOOKS[look] + ",", look(x, look), look(twin, look));
        }
    }

    static void same(String name, List<Integer> got, List<Integer> due) {
        Check.due(name + " answers", got.size(), due.size());
        for (int k = 0; k < Math.min(got.size(), due.size()); k++) {
            Check.due(name + " answer " + k, got.get(k), due.get(k));
        }
    }

    private static List<Integer> look(RopePost x, int look) {
        List<Integer> row = new ArrayList<>();
        switch (look) {
            case 1:
            case 2:
                row.add(x.goBack(look - 1));
                break;
            case 3:
                row.add(x.town());
                break;
            case 4:
                row.add(x.pass(99));
                break;
            default:
                break;
        }
        row.addAll(everything(x));
        return row;
    }

    /** All that can be asked without changing what is so. */
    static List<Integer> everything(RopePost x) {
        List<Integer> row = new ArrayList<>(today(x));
        row.add(x.fault());
        row.add(x.told(4));
        row.add(x.told(9));
        row.add(x.judge());
        for (int p = 0; p < x.told(0); p++) {
            for (int what = 0; what <= 2; what++) {
                row.add(x.pole(p, what));
            }
            for (int minute : MINUTES) {
                row.add(x.who(p, minute));
            }
        }
        return row;
    }

    /** What an image keeps, with the told numbers of ropes, boys and loads. */
    static List<Integer> today(RopePost x) {
        List<Integer> row = new ArrayList<>();
        for (int what : new int[] {0, 1, 2, 3, 5, 6, 7, 8, 10}) {
            row.add(x.told(what));
        }
        addAll(row, x.told(0), 3, 4, x::pole);
        addAll(row, x.told(1), 0, 7, x::rope);
        addAll(row, x.told(2), 0, 5, x::boy);
        addAll(row, x.told(3), 0, 6, x::load);
        for (int b = 0; b < x.told(2); b++) {
            // The only way to ask to which end one on a rope goes.
            row.add(x.round(b, (1 << x.told(3)) - 1));
        }
        int rings = x.told(8);
        for (int i : new int[] {0, 1, rings - 1, rings}) {
            row.add(x.ring(i, 0));
            row.add(x.ring(i, 1));
        }
        int seed = x.seed(0);
        x.seed(seed);
        row.add(seed);
        return row;
    }

    private interface Ask {
        int of(int i, int what);
    }

    private static void addAll(List<Integer> row, int count, int firstWhat, int lastWhat, Ask ask) {
        for (int i = 0; i < count; i++) {
            for (int what = firstWhat; what <= lastWhat; what++) {
                row.add(ask.of(i, what));
            }
        }
    }
}
