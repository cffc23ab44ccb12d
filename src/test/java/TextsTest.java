/** Promises 1 to 6: a new object, the TAPE, the two kinds of texts and their faults. */
public final class TextsTest {
    private static final Check CHECK = new Check();

    public static void main(String[] args) {
        newObject();
        tape();
        valleyTold();
        valleyWrong();
        valleyTooMany();
        nothingStaysOfWrongText();
        lawTold();
        lawWrong();
        lawDepth();
        lawOfFullTape();
        faults();
        CHECK.end();
    }

    private static void newObject() {
        StoneBacks x = new StoneBacks();
        int[] want = {0, 0, 0, -1, 0, 40, 0, 0, 0, 0, 0, 0, 0, 0, -1};
        for (int what = 0; what < want.length; what++) {
            CHECK.due("new: count(" + what + ")", x.count(what), want[what]);
        }
        for (int place = 0; place < 12; place++) {
            for (int what = 0; what < 4; what++) {
                CHECK.due("new: place(" + place + ", " + what + ")", x.place(place, what), 0);
            }
        }
        CHECK.due("new: fault", x.fault(), -1);
        CHECK.due("NONE", StoneBacks.NONE, -1);
    }

    private static void tape() {
        StoneBacks x = new StoneBacks();
        CHECK.due("end(0) of an empty tape", x.end(0), true);
        CHECK.due("end(1) of an empty tape", x.end(1), false);
        CHECK.due("end(-1)", x.end(-1), false);
        for (int n = 1; n <= 20; n++) {
            CHECK.due("feed " + n, x.feed(0x20202020, 0x20202020, 0x20202020, 0x20202020, 0x20202020), 20 * n);
        }
        CHECK.due("feed 21", x.feed(0, 0, 0, 0, 0), -1);
        CHECK.due("end(401)", x.end(401), false);
        CHECK.due("end(381)", x.end(381), true);
        CHECK.due("feed at 381", x.feed(0, 0, 0, 0, 0), -1);
        CHECK.due("end(380)", x.end(380), true);
        CHECK.due("feed at 380", x.feed(0x20202020, 0x20202020, 0x20202020, 0x20202020, 0x20202020), 400);
        CHECK.due("a law of blanks", x.law(), 0);
        CHECK.due("the tape is used up", x.end(1), false);
        CHECK.due("feed", x.feed('p' << 24 | 'o' << 16 | 'r' << 8 | 'c', 'h' << 24 | '9' << 16, 0, 0, 0), 20);
        x.end(6);
        CHECK.due("the highest byte is first", x.valley(), 1);
        CHECK.due("porch 9", x.place(9, 1), 1);
    }

    private static void valleyTold() {
        StoneBacks x = new StoneBacks();
        CHECK.due("text", Check.valley(x, "  person999back60at11goal0 ; person 0 back 1 at 0;stone 40 of 1 to 0 "), 1);
        CHECK.due("purse", x.person(0, 0), 999);
        CHECK.due("back", x.person(0, 1), 60);
        CHECK.due("place", x.person(0, 2), 11);
        CHECK.due("goal", x.person(0, 3), 0);
        CHECK.due("goal of one without", x.person(1, 3), 0);
        CHECK.due("debtor", x.stone(0, 0), 1);
        CHECK.due("lender", x.stone(0, 1), 0);
        CHECK.due("weight", x.stone(0, 2), 40);
        CHECK.due("bearer", x.stone(0, 4), 1);
        CHECK.due("one behind another", Check.valley(x, "person 007 back 12 at 5;stone 1 of 2 to 1 worn by 2;"
                + "stone 2 of 2 to 0 worn by 1;slope 0 3;slope 11 1;porch 0;porch 11;limit 99;hour 999"), 2);
        CHECK.due("people", x.count(0), 3);
        CHECK.due("007", x.person(2, 0), 7);
        CHECK.due("worn by its debtor", x.stone(1, 4), 2);
        CHECK.due("worn by another", x.stone(2, 4), 1);
        CHECK.due("slope 0", x.place(0, 0), 3);
        CHECK.due("slope 11", x.place(11, 0), 1);
        CHECK.due("porch 0", x.place(0, 1), 1);
        CHECK.due("porch 11", x.place(11, 1), 1);
        CHECK.due("porch 1", x.place(1, 1), 0);
        CHECK.due("limit", x.count(5), 99);
        CHECK.due("hour", x.count(4), 999);
        CHECK.due("later LINES stand", Check.valley(x, "limit 1;limit 2;hour 0;slope 0 0"), 3);
        CHECK.due("limit again", x.count(5), 2);
        CHECK.due("hour again", x.count(4), 0);
        CHECK.due("slope again", x.place(0, 0), 0);
        CHECK.due("texts", x.count(2), 3);
    }

    private static void valleyWrong() {
        String two = "person 1 back 1 at 1;person 1 back 1 at 1;";
        wrongValley("", ";", 0);
        wrongValley("", " ;", 1);
        wrongValley("", "limit 5;", 8);
        wrongValley("", "limit 5 ; ", 10);
        wrongValley("", "limit 5;;limit 6", 8);
        wrongValley("", "limit 5 limit 6", 8);
        wrongValley("", "limit", 5);
        wrongValley("", "limits 5", 0);
        wrongValley("", "limitz 5", 0);
        wrongValley("", "limita 5", 0);
        wrongValley("", "limit` 5", 5);
        wrongValley("", "limit{5", 5);
        wrongValley("", "limit /5", 6);
        wrongValley("", "limit 5:", 7);
        wrongValley("", "limit 0", 6);
        wrongValley("", "limit 100", 6);
        wrongValley("", "person 1 back 1 at 12", 19);
        wrongValley("", "person 1 back 1 at 1 goal 12", 26);
        wrongValley("", ";".repeat(400), 0);
        wrongValley("", " ".repeat(399) + "x", 399);
        wrongValley("", "Limit 5", 0);
        wrongValley("", "limiT 5", 0);
        wrongValley("", "limit five", 6);
        wrongValley("", "limit -5", 6);
        wrongValley("", "limit 0005", 6);
        wrongValley("", "limit 5\n", 7);
        wrongValley("", "limit 5\u00e9", 7);
        wrongValley("", "tire 1", 0);
        wrongValley("", "hour 1000", 5);
        wrongValley("", "slope 1", 7);
        wrongValley("", "slope 12 1", 6);
        wrongValley("", "slope 1 4", 8);
        wrongValley("", "slope 11", 8);
        wrongValley("", "porch 12", 6);
        wrongValley("", "person 1000 back 1 at 1", 7);
        wrongValley("", "person 1 back 1 at 1 goal", 25);
        wrongValley("", "person 1 back 1 at 1 goals 1", 21);
        wrongValley("", "person 1 back 61 at 1", 14);
        wrongValley("", "person 1 back 0 at 1", 14);
        wrongValley("", "person 1 back 1 at 1 goal 1 goal 1", 28);
        wrongValley(two, "stone 0 of 0 to 1", 6);
        wrongValley(two, "stone 41 of 0 to 1", 6);
        wrongValley(two, "stone 1 of 2 to 1", 11);
        wrongValley(two, "stone 1 of 0 to 2", 16);
        wrongValley(two, "stone 1 of 0 to 0", 16);
        wrongValley(two, "stone 1 of 0 to 1 worn by 1", 26);
        wrongValley(two, "stone 1 of 0 to 1 worn by 2", 26);
        wrongValley(two, "stone 1 of 0 to 1 worn 0", 23);
        wrongValley(two, "stone 1 of 0 to 1 worn", 22);
        wrongValley(two, "stone 1 of 0 to 1 by 0", 18);
        wrongValley(two, "stone 1 of 0 to 0001", 16);
        wrongValley("", "stone 1 of 0 to 1;person 1 back 1 at 1", 11);
    }

    private static void wrongValley(String ahead, String text, int fault) {
        StoneBacks x = new StoneBacks();
        CHECK.noArgument(text, () -> Check.valley(x, ahead + text));
        CHECK.due("fault of '" + text + "'", x.fault(), ahead.length() + fault);
        CHECK.due("texts behind '" + text + "'", x.count(2), 0);
        CHECK.due("people behind '" + text + "'", x.count(0), 0);
        CHECK.due("limit behind '" + text + "'", x.count(5), 40);
        CHECK.due("tape behind '" + text + "'", x.end(1), false);
    }

    private static void valleyTooMany() {
        String line = "hour 1;";
        StoneBacks x = new StoneBacks();
        CHECK.due("14 LINES", Check.valley(x, line.repeat(13) + "hour 1"), 1);
        CHECK.noArgument("15 LINES", () -> Check.valley(x, line.repeat(14) + " hour 1"));
        CHECK.due("fault of 15 LINES", x.fault(), 14 * line.length() + 1);
        CHECK.noArgument("14 LINES and ;", () -> Check.valley(x, line.repeat(14) + " "));
        CHECK.due("fault of 14 LINES and ;", x.fault(), 14 * line.length() + 1);
        String one = "person 1 back 1 at 1;";
        CHECK.noArgument("7 PEOPLE", () -> Check.valley(x, one.repeat(6) + " person x"));
        CHECK.due("fault of 7 PEOPLE", x.fault(), 6 * one.length() + 1);
        CHECK.due("5 PEOPLE", Check.valley(x, one.repeat(4) + "person 1 back 1 at 1"), 2);
        CHECK.noArgument("2 PEOPLE more", () -> Check.valley(x, one + one + "hour 2"));
        CHECK.due("fault of 2 PEOPLE more", x.fault(), one.length());
        CHECK.due("people", x.count(0), 5);
        String stone = "stone 1 of 0 to 1;";
        CHECK.due("9 STONES", Check.valley(x, stone.repeat(8) + "stone 1 of 0 to 1"), 3);
        CHECK.noArgument("11 STONES", () -> Check.valley(x, stone + stone + "hour 3"));
        CHECK.due("fault of 11 STONES", x.fault(), stone.length());
        for (int n = 4; n <= 12; n++) {
            CHECK.due("text " + n, Check.valley(x, ""), n);
        }
        CHECK.noArgument("a wrong 13th text", () -> Check.valley(x, "hour x"));
        CHECK.due("fault of it", x.fault(), 5);
        CHECK.fails("a 13th text", UnsupportedOperationException.class, () -> Check.valley(x, "hour 7"));
        CHECK.due("fault of it", x.fault(), -1);
        CHECK.due("tape behind it", x.end(1), false);
        CHECK.due("hour behind it", x.count(4), 1);
        CHECK.due("texts", x.count(2), 12);
    }

    private static void nothingStaysOfWrongText() {
        StoneBacks x = Check.told("person 5 back 20 at 1;person 5 back 20 at 1;stone 3 of 0 to 1");
        Check.law(x, "tire 7");
        x.rest(0);
        CHECK.noArgument("wrong", () -> Check.valley(x, "person 1 back 1 at 1;slope 1 1;porch 1;limit 1;hour 1;"
                + "stone 1 of 2 to 0;x"));
        CHECK.due("people", x.count(0), 2);
        CHECK.due("stones", x.count(1), 1);
        CHECK.due("slope", x.place(1, 0), 0);
        CHECK.due("porch", x.place(1, 1), 0);
        CHECK.due("limit", x.count(5), 40);
        CHECK.due("hour", x.count(4), 0);
        CHECK.noArgument("wrong law", () -> Check.law(x, "tire 1;tire 2;tire"));
        CHECK.due("law lines", x.count(3), 1);
        CHECK.due("law", x.does(0, 0), 7);
        CHECK.due("acts are remembered still", x.count(13), 1);
        Check.law(x, "tire 8");
        CHECK.due("a law: none are remembered", x.count(13), 0);
        x.rest(0);
        Check.valley(x, "");
        CHECK.due("a valley: none are remembered", x.count(13), 0);
    }

    private static void lawTold() {
        StoneBacks x = Check.told("person 5 back 20 at 3 goal 4;person 5 back 30 at 4;stone 10 of 0 to 1;"
                + "slope 3 2;hour 30");
        CHECK.due("LINES", Check.law(x, "tire 1;tire 2 if light;tire 4 if there;earn 9 if load>back or tired<1;"
                + "hurt 99;hurt 99 if who<1;earn 20 if who+place+slope+hour>5+5+0"), 7);
        CHECK.due("count(3)", x.count(3), 7);
        CHECK.due("tires 0", x.does(0, 0), 1);
        CHECK.due("tires 1", x.does(1, 0), 7);
        // who 0, place 3, slope 2, hour 6: 11
        CHECK.due("earns 0", x.does(0, 1), 29);
        // who 1, place 4, slope 0, hour 6: 11
        CHECK.due("earns 1", x.does(1, 1), 29);
        CHECK.due("hurts 0: 100 at most", x.does(0, 2), 100);
        CHECK.due("hurts 1", x.does(1, 2), 99);
        holds("there", 0, 1);
        holds("not there", 1, 0);
        holds("light", 0, 1);
        holds("load>9", 1, 0);
        holds("load<10", 0, 1);
        holds("10<load+1", 1, 0);
        holds("back > 20", 0, 1);
        holds("who<1", 1, 0);
        holds("place>3", 0, 1);
        holds("slope>1", 1, 0);
        holds("tired>0", 0, 0);
        holds("hour<7 and hour>5", 1, 1);
        holds("999>998 and not 1<1", 1, 1);
        holds("0>0", 0, 0);
        holds("not there and there", 0, 0);
        holds("not (there and there)", 1, 0);
        holds("there or not there and light", 0, 1);
        holds("(there or not there) and light", 0, 1);
        holds("light and there or who<1", 1, 1);
        holds("who<1 or light and there", 1, 1);
        holds("who<1 or light and who<1", 1, 0);
        holds("(who<1 or light) and who<1", 1, 0);
        holds("(who<1 or light)and who>0", 0, 1);
        holds("not not there", 0, 1);
        holds("not who<1 or who<1", 1, 1);
        holds("((((((there))))))", 0, 1);
        holds("load+back+1+1<32", 0, 0);
        holds("load+back+1+1<33", 1, 1);
        CHECK.due("a law of none", Check.law(x, "   "), 0);
        CHECK.due("tires by none", x.does(0, 0), 0);
        CHECK.due("earns by none", x.does(0, 1), 0);
        CHECK.due("hurts by none", x.does(0, 2), 0);
        CHECK.due("12 LINES", Check.law(x, "tire 99;".repeat(11) + "tire 99"), 12);
        CHECK.due("sum", x.does(0, 0), 12 * 99);
    }

    private static void holds(String condition, int first, int second) {
        StoneBacks x = Check.told("person 5 back 20 at 3 goal 4;person 5 back 30 at 4;stone 10 of 0 to 1;"
                + "slope 3 2;hour 30");
        Check.law(x, "earn 1 if " + condition);
        CHECK.due(condition + " of 0", x.does(0, 1), first);
        CHECK.due(condition + " of 1", x.does(1, 1), second);
    }

    private static void lawWrong() {
        wrongLaw(";", 0);
        wrongLaw("tire 1;", 7);
        wrongLaw("tire", 4);
        wrongLaw("tire 100", 5);
        wrongLaw("tire 0001", 5);
        wrongLaw("tires 1", 0);
        wrongLaw("person 1", 0);
        wrongLaw("tire 1 1", 7);
        wrongLaw("tire 1 if", 9);
        wrongLaw("tire 1 if ;", 10);
        wrongLaw("tire 1 ifthere", 7);
        wrongLaw("tire 1 and there", 7);
        wrongLaw("tire 1 if there if light", 16);
        wrongLaw("tire 1 if there and", 19);
        wrongLaw("tire 1 if there and or light", 20);
        wrongLaw("tire 1 if there light", 16);
        wrongLaw("tire 1 if there<1", 15);
        wrongLaw("tire 1 if load", 14);
        wrongLaw("tire 1 if load;", 14);
        wrongLaw("tire 1 if load and there", 15);
        wrongLaw("tire 1 if load+", 15);
        wrongLaw("tire 1 if load+<1", 15);
        wrongLaw("tire 1 if load<1<2", 16);
        wrongLaw("tire 1 if load<(1)", 15);
        wrongLaw("tire 1 if (load)<1", 15);
        wrongLaw("tire 1 if load<there", 15);
        wrongLaw("tire 1 if load=1", 14);
        wrongLaw("tire 1 if load<1000", 15);
        wrongLaw("tire 1 if purse<1", 10);
        wrongLaw("tire 1 if (there", 16);
        wrongLaw("tire 1 if (there;tire 1", 16);
        wrongLaw("tire 1 if there)", 15);
        wrongLaw("tire 1 if (there))", 17);
        wrongLaw("tire 1 if ()", 11);
        wrongLaw("tire 1 if not", 13);
        wrongLaw("tire 1 if not and there", 14);
        wrongLaw("tire 1 if (there) light", 18);
        wrongLaw("tire 1;".repeat(12) + "tire 1", 84);
        wrongLaw("tire 1;".repeat(12), 84);
    }

    private static void wrongLaw(String text, int fault) {
        StoneBacks x = new StoneBacks();
        CHECK.noArgument(text, () -> Check.law(x, text));
        CHECK.due("fault of '" + text + "'", x.fault(), fault);
        CHECK.due("LINES behind '" + text + "'", x.count(3), -1);
        CHECK.due("tape behind '" + text + "'", x.end(1), false);
    }

    private static void lawDepth() {
        StoneBacks x = new StoneBacks();
        CHECK.due("6 deep", Check.law(x, "tire 1 if not(not(not(there)))and((((((light))))))or not there"), 1);
        CHECK.due("each 6 anew", Check.law(x, "tire 1 if ((((((there)))))) and not not not not not not there"), 1);
        wrongLaw("tire 1 if (((((((there)))))))", 16);
        wrongLaw("tire 1 if not(not(not(not there)))", 10 + 12);
        wrongLaw("tire 1 if there or (((((not(there))))))", 10 + 9 + 5 + 3);
        wrongLaw("tire 1 if ((((((there and not light))))))", 10 + 6 + 10);
        wrongLaw("tire 1 if (((((((", 16);
    }

    private static void lawOfFullTape() {
        StoneBacks x = Check.told("person 5 back 20 at 3");
        String sum = "1+".repeat(192) + "1<193";
        CHECK.due("400 bytes", ("tire 9 if " + sum + " ").length(), 400);
        CHECK.due("a full tape", Check.law(x, "tire 9 if " + sum + " "), 1);
        CHECK.due("193 is not below 193", x.does(0, 0), 0);
        CHECK.due("a full tape", Check.law(x, "tire 9 if " + "1+".repeat(192) + "1<194 "), 1);
        CHECK.due("193 is below 194", x.does(0, 0), 9);
        wrongLaw("tire 9 if " + "1+".repeat(195), 400);
        wrongLaw("tire 9 if 1<" + "1+".repeat(193) + "1)", 399);
        x.image();
        Check.law(x, "");
        x.back();
        CHECK.due("it comes back whole", x.does(0, 0), 9);
    }

    private static void faults() {
        StoneBacks x = new StoneBacks();
        CHECK.noArgument("wrong", () -> Check.law(x, "tire x"));
        CHECK.due("fault", x.fault(), 5);
        Check.rows(x, 1, 2, 3);
        CHECK.noArgument("scales", () -> x.scales(false));
        CHECK.due("fault behind scales", x.fault(), 5);
        x.image();
        CHECK.due("right", Check.law(x, "tire 1"), 1);
        CHECK.due("fault behind a right one", x.fault(), -1);
        CHECK.noArgument("wrong", () -> Check.valley(x, "x"));
        x.back();
        CHECK.due("fault behind going back", x.fault(), 0);
    }
}
