/** Promises 17 to 19 at their bounds: a story for each parameter below, at and above its range. */
public final class WishBoundsTest {
    private static final Check CHECK = new Check("WishBoundsTest");

    public static void main(String[] args) {
        promise17Mark();
        promise17MarkValue();
        promise17Attribute();
        promise17Value();
        promise18Wish();
        promise18Day();
        promise18Differs();
        promise19Attribute();
        promise19One();
        promise19Other();
        promise19BothDays();
        promise19None();
        CHECK.end();
    }

    private static Story story(String sentence) {
        return new Story(CHECK, sentence);
    }

    private static void promise17Mark() {
        story("17: mark -1").calls("wish(-1, 1, 0, 0) : I", "wish(MIN, 1, 0, 0) : I",
                "differing(0, 0) : B", "wish(0, 1, 0, 0) = 0").end();
        story("17: mark 0, the serial").calls("wish(0, 7, 0, 0) = 0", "find(0, 7, 0, 0, 1, -1)",
                "find(0, 0, 7, 8, 1, -1)", "find(0, 0, 8, 7, 1, -1)", "differing(0, 0) = 1",
                "strike(0)", "differing(0, 0) = 0").end();
        story("17: mark 1, the name").calls("wish(1, 7, 0, 0) = 0", "find(0, 7, 0, 0, 1, -1)",
                "find(0, 0, 7, 8, 1, -1)", "find(0, 0, 8, 7, 1, -1)", "differing(0, 0) = 1",
                "strike(1)", "differing(0, 0) = 0").end();
        story("17: mark 2, the address").calls("wish(2, 7, 0, 0) = 0", "find(0, 7, 0, 0, 1, -1)",
                "find(0, 0, 7, 8, 1, -1)", "find(0, 0, 8, 7, 1, -1)", "differing(0, 0) = 1",
                "strike(2)", "differing(0, 0) = 0").end();
        story("17: mark 3").calls("wish(3, 1, 0, 0) : I", "wish(MAX, 1, 0, 0) : I",
                "differing(0, 0) : B", "wish(0, 1, 0, 0) = 0").end();
    }

    private static void promise17MarkValue() {
        story("17: markValue 0").calls("wish(0, 0, 0, 0) : I", "wish(0, -1, 0, 0) : I",
                "wish(0, MIN, 0, 0) : I", "wish(0, 1, 0, 0) = 0").end();
        story("17: markValue 1").calls("wish(0, 1, 0, 0) = 0", "find(0, 1, 0, 0, 1, -1)",
                "find(0, 2, 0, 0, 1, -1)", "find(0, 0, 0, 0, 1, -1)", "differing(0, 0) = 1").end();
        story("17: markValue 99").calls("wish(0, 99, 0, 0) = 0", "find(0, 99, 0, 0, 1, -1)",
                "find(0, 98, 0, 0, 1, -1)", "differing(0, 0) = 1").end();
        story("17: markValue 100").calls("wish(0, 100, 0, 0) : I", "wish(0, MAX, 0, 0) : I",
                "wish(0, 99, 0, 0) = 0").end();
    }

    private static void promise17Attribute() {
        story("17: attribute -1").calls("wish(0, 1, -1, 0) : I", "wish(0, 1, MIN, 0) : I",
                "wish(0, 1, 0, 0) = 0").end();
        story("17: attribute 0").calls("wish(0, 1, 0, 5) = 0", "find(0, 1, 0, 0, 6, 5)",
                "differing(0, 0) = 1").end();
        story("17: attribute 1").calls("wish(0, 1, 1, 5) = 0", "find(0, 1, 0, 0, 5, 6)",
                "differing(0, 0) = 1").end();
        story("17: attribute 2").calls("wish(0, 1, 2, 0) : I", "wish(0, 1, MAX, 0) : I",
                "wish(0, 1, 1, 0) = 0").end();
    }

    private static void promise17Value() {
        story("17: value -1").calls("wish(0, 1, 0, -1) : I", "wish(0, 1, 0, MIN) : I",
                "wish(0, 1, 0, 0) = 0").end();
        story("17: value 0").calls("wish(0, 1, 0, 0) = 0", "find(0, 1, 0, 0, 0, 1)",
                "differing(0, 0) = 0", "find(0, 1, 0, 0, 1, 1)", "differing(0, 0) = 1").end();
        story("17: value 99").calls("wish(0, 1, 0, 99) = 0", "find(0, 1, 0, 0, 99, 1)",
                "differing(0, 0) = 0", "find(0, 1, 0, 0, 98, 1)", "differing(0, 0) = 1").end();
        story("17: value 100").calls("wish(0, 1, 0, 100) : I", "wish(0, 1, 0, MAX) : I",
                "wish(0, 1, 0, 99) = 0").end();
    }

    /** The wishes 0 and 2 are missed by the one thing, the wish 1 is met. */
    private static Story withThree(String sentence) {
        return story(sentence).calls("find(0, 1, 2, 3, 10, -1)", "wish(0, 1, 0, 11) = 0",
                "wish(1, 2, 0, 10) = 1", "wish(2, 3, 1, 0) = 2");
    }

    private static void promise18Wish() {
        withThree("18: wish -1").calls("differing(-1, 0) : B", "differing(MIN, 0) : B").end();
        withThree("18: wish 0").calls("differing(0, 0) = 1").end();
        withThree("18: wish 1, which is met").calls("differing(1, 0) = 0").end();
        withThree("18: wish 2, the last").calls("differing(2, 0) = 1").end();
        withThree("18: wish 3, which is not told").calls("differing(3, 0) : B",
                "differing(20, 0) : B", "differing(MAX, 0) : B").end();
        withThree("18: a refused wish is not told").calls("wish(0, 1, 0, 100) : I",
                "differing(3, 0) : B", "wish(0, 1, 0, 99) = 3", "differing(3, 0) = 1").end();
    }

    private static void promise18Day() {
        withThree("18: day -1").calls("differing(0, -1) : I", "differing(0, MIN) : I").end();
        withThree("18: day 0").calls("differing(0, 0) = 1").end();
        story("18: day 9999").each(1, 9, "pass(1000)").calls("pass(999)", "wish(0, 1, 0, 0)",
                "find(0, 1, 0, 0, 1, 1)", "differing(0, 9998) = 0", "differing(0, 9999) = 1").end();
        withThree("18: day 10000").calls("differing(0, 10000) : I", "differing(0, MAX) : I").end();
        withThree("18: the last day of the term and the one after").calls("differing(0, 30) = 1",
                "differing(0, 31) = 0").end();
    }

    private static void promise18Differs() {
        story("18: no thing at all").calls("wish(0, 1, 0, 0)", "differing(0, 0) = 0").end();
        story("18: a value that is not known, the wished one being 0").calls("wish(0, 1, 0, 0)",
                "find(0, 1, 0, 0, -1, 0)", "differing(0, 0) = 1").end();
        story("18: a value just beside the wished one").calls("wish(0, 1, 0, 50)",
                "find(0, 1, 0, 0, 49, 50)", "differing(0, 0) = 1", "find(0, 1, 0, 0, 51, 50)",
                "differing(0, 0) = 1", "find(0, 1, 0, 0, 50, 50)", "differing(0, 0) = 0").end();
        story("18: one of its finds has the mark, and it is not the lowest").calls("wish(1, 9, 0, 0)",
                "find(0, 1, 8, 0, 1, 1)", "find(0, 1, 9, 0, -1, 1)", "differing(0, 0) = 1").end();
        story("18: a thing of which two finds have the mark counts once").calls("wish(0, 1, 0, 0)",
                "find(0, 1, 0, 0, 1, 1)", "find(0, 1, 0, 0, 1, 1)", "differing(0, 0) = 1").end();
        story("18: the mark value on another mark").calls("wish(0, 9, 0, 0)",
                "find(0, 1, 9, 9, 1, 1)", "differing(0, 0) = 0").end();
        story("18: the find with the mark is struck").calls("wish(1, 9, 0, 0)",
                "find(0, 1, 8, 0, 1, 1)", "find(0, 1, 9, 0, -1, 1)", "strike(1)",
                "differing(0, 0) = 0").end();
    }

    /** The attribute 0 of the thing of the find 0 is 5 on the day 0, and 6 from the day 1 on. */
    private static Story withChange(String sentence) {
        return story(sentence).calls("find(0, 1, 0, 0, 5, 8)", "pass(1)", "find(0, 1, 0, 0, 6, 8)");
    }

    private static void promise19Attribute() {
        withChange("19: attribute -1").calls("changed(-1, 0, 1) : I", "changed(MIN, 0, 1) : I").end();
        withChange("19: attribute 0").calls("changed(0, 0, 1) = 1").end();
        withChange("19: attribute 1").calls("changed(1, 0, 1) = 0", "find(0, 1, 0, 0, 6, 7)",
                "changed(1, 0, 1) = 1").end();
        withChange("19: attribute 2").calls("changed(2, 0, 1) : I", "changed(MAX, 0, 1) : I").end();
    }

    private static void promise19One() {
        withChange("19: one -1").calls("changed(0, -1, 1) : I", "changed(0, MIN, 1) : I").end();
        withChange("19: one 0").calls("changed(0, 0, 1) = 1").end();
        story("19: one 9999").each(1, 9, "pass(1000)").calls("pass(998)", "find(0, 1, 0, 0, 5, 8)",
                "pass(1) = 9999", "find(0, 1, 0, 0, 6, 8)", "changed(0, 9999, 9998) = 1",
                "changed(1, 9999, 9998) = 0").end();
        withChange("19: one 10000").calls("changed(0, 10000, 1) : I", "changed(0, MAX, 1) : I").end();
    }

    private static void promise19Other() {
        withChange("19: other -1").calls("changed(0, 1, -1) : I", "changed(0, 1, MIN) : I").end();
        withChange("19: other 0").calls("changed(0, 1, 0) = 1").end();
        story("19: other 9999").each(1, 9, "pass(1000)").calls("pass(998)", "find(0, 1, 0, 0, 5, 8)",
                "pass(1) = 9999", "find(0, 1, 0, 0, 6, 8)", "changed(0, 9998, 9999) = 1",
                "changed(1, 9998, 9999) = 0").end();
        withChange("19: other 10000").calls("changed(0, 1, 10000) : I", "changed(0, 1, MAX) : I").end();
        withChange("19: all three out of range").calls("changed(2, -1, 10000) : I").end();
    }

    private static void promise19BothDays() {
        withChange("19: one and the same day").calls("changed(0, 0, 0) = 0",
                "changed(0, 1, 1) = 0").end();
        withChange("19: a find that came after the earlier day").calls("changed(0, 0, 1) = 1").end();
        withChange("19: a find whose term is over on the later day").calls("changed(0, 0, 30) = 1",
                "changed(0, 0, 31) = 0").end();
        withChange("19: a struck find").calls("strike(0)", "changed(0, 0, 1) = 0").end();
        story("19: each find of a thing counts").calls("find(0, 1, 0, 0, 5, 8)",
                "find(0, 1, 0, 0, 5, 8)", "pass(1)", "find(0, 1, 0, 0, 6, 8)",
                "changed(0, 0, 1) = 2").end();
        story("19: no find at all").calls("changed(0, 0, 9999) = 0").end();
        story("19: its thing loses the find that told the value").calls(
                "find(0, 1, 0, 0, 5, 8)", "setTerm(0, 1)", "find(1, 2, 0, 0, 6, 8)",
                "tell(0, 1, 1)", "changed(0, 1, 2) = 1", "changed(1, 1, 2) = 0").end();
    }

    private static void promise19None() {
        story("19: none and the value 0").calls("find(0, 1, 0, 0, -1, 8)", "pass(1)",
                "find(0, 1, 0, 0, 0, 8)", "changed(0, 0, 1) = 1", "changed(0, 1, 0) = 1").end();
        story("19: none and the value 99").calls("find(0, 1, 0, 0, -1, 8)", "pass(1)",
                "find(0, 1, 0, 0, 99, 8)", "changed(0, 0, 1) = 1").end();
        story("19: none on both days").calls("find(0, 1, 0, 0, -1, 8)", "pass(1)",
                "find(0, 1, 0, 0, -1, 8)", "changed(0, 0, 1) = 0").end();
    }
}
