import static java.util.Arrays.asList;

import java.util.ArrayList;
import java.util.List;

/** The edges of promises 33 to 37, and of the section on counterexamples. */
final class ModelBoundaries {

    /** Six demands of an element each in a region of its own, from 1 on. */
    private static final String SIX_DEMANDS = demands(1, 2, 3, 4, 5, 6);

    private interface Count {
        Object of(Gimlet gimlet);
    }

    private interface Ways {
        long of(Gimlet gimlet, int elements);
    }

    private ModelBoundaries() {
    }

    static void run() {
        counterexamples();
        least();
        elements(33, "found by sets of assumptions", "elements", Gimlet::elements);
        elements(34, "found by trying regions", "elementsByTrying", Gimlet::elementsByTrying);
        region();
        regionRefused();
        ways(36, "models", 6, Gimlet::models);
        ways(37, "modelsByTrying", 3, Gimlet::modelsByTrying);
        everyWay();
    }

    private static String demands(int... regions) {
        StringBuilder demands = new StringBuilder();
        for (int region : regions) {
            demands.append(demands.length() == 0 ? "" : " ").append(Scripts.some(region));
        }
        return demands.toString();
    }

    /** The regions of the least counterexample, or null if the goal follows. */
    private static List<Integer> found(Gimlet gimlet) {
        if (gimlet.follows()) {
            return null;
        }
        List<Integer> regions = new ArrayList<>();
        for (int element = 0; element < gimlet.elements(); element++) {
            regions.add(gimlet.region(element));
        }
        return regions;
    }

    private static void least(String assumptions, String goal, Integer... regions) {
        Gimlet gimlet = Check.posed(assumptions, goal);
        String what = assumptions + " / " + goal;
        Check.due(what, found(gimlet), asList(regions));
        Check.due("elements of " + what, gimlet.elements(), regions.length);
        Check.due("elements by trying of " + what, gimlet.elementsByTrying(), regions.length);
        for (int element : new int[] {-1, regions.length, 16, Integer.MIN_VALUE, Integer.MAX_VALUE}) {
            Check.noSuchElement("region(" + element + ") of " + what, gimlet, () -> gimlet.region(element));
        }
    }

    private static void counterexamples() {
        Sentences.about(0, "A counterexample is a model for which the goal doesn't hold");
        for (int region = 0; region < 16; region++) {
            least("", Scripts.none(region), region);
            least("d1C" + Scripts.single(region), "e10", region);
            least(Scripts.some(region), "n00", region);
            least("i11", "i1C" + Scripts.single(region), region);
            least("i11", Scripts.some(region), region == 0 ? 1 : 0);
        }
        Check.due("a goal that holds for the one model", found(Check.posed("e10", "dab")), null);
        least("e10", "iab");
        Check.due("no model at all", found(Check.posed("n00", "iab")), null);
    }

    private static void least() {
        Sentences.about(0, "The least counterexample has the fewest elements");
        least("", "i11");
        least("sab eCaCb d11", "i1a");
        least("i11", "n00", 0);
        least("i11 i11 x10 n10 i1Uab i1Cd", "n00", 1);
        // One region that meets all demands, though it is the last.
        least("i1a i1b i1c i1d", "n00", 15);
        // Two regions are needed; 0 and 15, and 1 and 2 do, and 0 comes ahead of 1.
        least(Scripts.some(0, 1) + " " + Scripts.some(2, 15) + " " + Scripts.some(0, 2) + " " + Scripts.some(1, 15),
                "n00", 0, 15);
        // The same, but 0 is denied.
        least(Scripts.some(0, 1) + " " + Scripts.some(2, 15) + " " + Scripts.some(0, 2) + " " + Scripts.some(1, 15)
                + " " + Scripts.none(0), "n00", 1, 2);
        // The first regions are the same, the second ones are not.
        least(Scripts.some(3) + " " + Scripts.some(9, 12, 14), "n00", 3, 9);
        least(Scripts.some(3) + " " + Scripts.some(9, 12, 14) + " " + Scripts.none(9), "n00", 3, 12);
        // The demand of the goal's denial counts as well, and may be met by the same element.
        least(Scripts.some(3, 5), Scripts.none(5, 6), 5);
        least(Scripts.some(3, 5), Scripts.none(6, 7), 3, 6);
        least(SIX_DEMANDS, Scripts.none(0), 0, 1, 2, 3, 4, 5, 6);
        least(SIX_DEMANDS, Scripts.none(15), 1, 2, 3, 4, 5, 6, 15);
        least(SIX_DEMANDS, Scripts.none(6), 1, 2, 3, 4, 5, 6);
        least(demands(15, 14, 13, 12, 11, 10), Scripts.some(0), 10, 11, 12, 13, 14, 15);
    }

    private static void elements(int promise, String words, String name, Count count) {
        Sentences.about(promise, words);
        Check.due(name + ", the least", count.of(Check.posed("", "i11")), 0);
        Check.due(name + ", one", count.of(Check.posed("", "d11")), 1);
        Check.due(name + ", one for six demands", count.of(Check.posed("i1a i1b i1c i1d i11 iab", "n00")), 1);
        int[] regions = {15, 1, 8, 2, 9, 0};
        for (int demands = 1; demands <= 6; demands++) {
            String all = demands(java.util.Arrays.copyOf(regions, demands));
            Check.due(name + " of " + demands, count.of(Check.posed(all, "n00")), demands);
            Check.due(name + " of " + demands + " and the goal",
                    count.of(Check.posed(all, Scripts.none(5))), demands + 1);
        }
        Sentences.about(promise, "Returns the number of elements.");
        Check.due(name + ", the most", count.of(Check.posed(SIX_DEMANDS, Scripts.none(0))), 7);
        Twins.changesNothing(name, 7, () -> Check.posed(SIX_DEMANDS, Scripts.none(0)), count::of);
        Twins.changesNothing(name, 0, () -> Check.posed("e10", "iab"), count::of);
        Sentences.about(promise, "Throws `IllegalStateException` if there is no goal");
        StatementBoundaries.refusesWithoutGoal(count::of);
        Sentences.about(promise, "Throws `NoSuchElementException` if it follows");
        follows(name, count::of);
    }

    private static void follows(String name, Twins.Call call) {
        Twins.noSuchElement(name + " of what always holds", () -> Check.posed("", "e00"), call);
        Twins.noSuchElement(name + " of a denial", () -> Check.posed("sab", "sab"), call);
        Twins.noSuchElement(name + " of a demand", () -> Check.posed("iab", "i1a"), call);
        Twins.noSuchElement(name + " without model", () -> Check.posed("n00", "iab"), call);
        Twins.noSuchElement(name + " without model of six", () -> Check.posed("sab ia1 dab icd i1d i1c", "scd"), call);
        Twins.noSuchElement(name + " of six demands", () -> Check.posed(SIX_DEMANDS, Scripts.some(6, 7)), call);
    }

    private static void region() {
        Sentences.about(35, "its elements are counted from 0, in ascending order of their regions");
        Gimlet seven = Check.posed(demands(14, 3, 15, 0, 9, 8), Scripts.none(1));
        int[] ascending = {0, 1, 3, 8, 9, 14, 15};
        for (int element = 0; element < 7; element++) {
            Check.due("region(" + element + ")", seven.region(element), ascending[element]);
        }
        Check.due("region(0) behind region(6)", seven.region(0), 0);
        Sentences.about(35, "Returns the region.");
        for (int number = 0; number < 16; number++) {
            int region = number;
            Twins.changesNothing("region(0)", region, () -> Check.posed("", Scripts.none(region)),
                    twin -> twin.region(0));
        }
    }

    private static void regionRefused() {
        int[] elements = {0, -1, 1, 7, Integer.MIN_VALUE, Integer.MAX_VALUE};
        Sentences.about(35, "Throws `IllegalStateException` if there is no goal");
        for (int element : elements) {
            StatementBoundaries.refusesWithoutGoal(twin -> twin.region(element));
        }
        Sentences.about(35, "Throws `NoSuchElementException` if it follows, or the least counterexample has no such");
        for (int element : elements) {
            follows("region(" + element + ")", twin -> twin.region(element));
        }
        String[] posed = {"", "i11", "i11 i1Ca", SIX_DEMANDS, SIX_DEMANDS};
        String[] goals = {"i11", "n00", "s10", "n00", Scripts.none(0)};
        int[] counts = {0, 1, 1, 6, 7};
        for (int index = 0; index < posed.length; index++) {
            int one = index;
            Twins.Script script = () -> Check.posed(posed[one], goals[one]);
            int last = counts[index] - 1;
            for (int element : new int[] {-1, last + 1, last + 2, 15, 16, Integer.MIN_VALUE, Integer.MAX_VALUE}) {
                Twins.noSuchElement("region(" + element + ") of " + counts[index], script,
                        twin -> twin.region(element));
            }
            if (last >= 0) {
                Check.holds("the last element", script.play().region(last) >= 0);
            }
        }
    }

    private static void ways(int promise, String name, int most, Ways ways) {
        Sentences.about(promise, promise == 36 ? "in how many ways numbered elements" : "found by trying all ways");
        long all = 1;
        for (int elements = 0; elements <= most; elements++) {
            Check.due(name + "(" + elements + ")", ways.of(new Gimlet(), elements), all);
            Check.due(name + "(" + elements + ") of one region",
                    ways.of(Check.posed("d1C" + Scripts.single(9), ""), elements), 1L);
            Check.due(name + "(" + elements + ") of no region",
                    ways.of(Check.posed("e10", ""), elements), elements == 0 ? 1L : 0L);
            Check.due(name + "(" + elements + ") without model", ways.of(Check.posed("n00", ""), elements), 0L);
            Check.due(name + "(" + elements + ") of a demand", ways.of(Check.posed("i11", ""), elements),
                    elements == 0 ? 0L : all);
            all *= 16;
        }
        Sentences.about(promise, "Returns the number of ways.");
        Twins.changesNothing(name + "(0)", 0L, Scripts.SIX, twin -> ways.of(twin, 0));
        Twins.changesNothing(name + " of the most", most == 6 ? 16777216L : 4096L, Scripts.NEW,
                twin -> ways.of(twin, most));
        Check.due("the elements are numbered", ways.of(Check.posed(demands(0, 15), ""), 2), 2L);
        Check.due("three of them in two regions",
                ways.of(Check.posed(demands(0, 15) + " d1C" + Scripts.anyOf(0, 15), ""), 3), 6L);
        Check.due("the goal does not count", ways.of(Check.posed("", "e10"), 3), 4096L);
        Sentences.about(promise, "Throws `IllegalArgumentException` if the number is not between 0 and " + most);
        for (int elements : new int[] {-1, most + 1, most + 2, 7, 16, 256, Integer.MIN_VALUE, Integer.MAX_VALUE}) {
            Twins.illegalArgument(name + "(" + elements + ")", Scripts.NEW, twin -> ways.of(twin, elements));
            Twins.illegalArgument(name + "(" + elements + ")", Scripts.SIX, twin -> ways.of(twin, elements));
            Twins.illegalArgument(name + "(" + elements + ") without model", () -> Check.posed("n00", ""),
                    twin -> ways.of(twin, elements));
        }
    }

    /** Six demands share their elements in all ways; with as many elements there is one each. */
    private static void everyWay() {
        Sentences.about(36, "found by sets of assumptions");
        long[] factorials = {1, 1, 2, 6, 24, 120, 720};
        int[] regions = {0, 3, 5, 6, 10, 15};
        for (int demands = 1; demands <= 6; demands++) {
            Gimlet gimlet = Check.posed(demands(java.util.Arrays.copyOf(regions, demands)), "");
            Check.due("one element less than demands", gimlet.models(demands - 1), 0L);
            Check.due("as many elements as demands", gimlet.models(demands), factorials[demands]);
        }
        Check.due("the same demand six times", Check.posed("i1a i1a i1a i1a i1a i1a", "").models(6), 16515072L);
        Check.due("six denials", Check.posed("dab dac dad dbc dbd dcd", "").models(6), 15625L);
        String three = Scripts.some(0, 1) + " " + Scripts.some(1, 2) + " d1C" + Scripts.anyOf(0, 1, 2);
        Check.due("two demands in three regions", Check.posed(three, "").models(2), 7L);
    }
}
