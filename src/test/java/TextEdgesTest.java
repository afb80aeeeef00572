/** Promises 17 to 20: each boundary that the document names, at the last value that is fine and at the first that is not. */
public final class TextEdgesTest {
    private static final int NONE = ChalkRings.NONE;
    private static final String EIGHTY = "m0,0s1p0;m1,0s1p0;m2,0s1p0;m3,0s1p0;m4,0s1p0;m5,0s1p0;m6,0s1p0;m7,0s1p0;m8,0s1p0";

    public static void main(String[] args) throws Exception {
        promise17();
        promise18();
        promise19Coordinates();
        promise19Radius();
        promise19SizeAndOwner();
        promise19Items();
        promise19Signs();
        promise19LongTexts();
        promise20Texts();
        promise20EndsAtTheFirstRefusal();
        promise20Limits();
        promise20SavesOneState();
        Script.finish();
    }

    private static void promise17() throws Exception {
        Script.run("Promise 17: the code is 33 to 126",
            "type(32) = BAD_VALUE", "type(127) = BAD_VALUE", "type(0) = BAD_VALUE", "type(-1) = BAD_VALUE",
            "type(-2147483648) = BAD_VALUE", "type(2147483647) = BAD_VALUE", "type(65536) = BAD_VALUE",
            "type(65645) = BAD_VALUE", "clearText() = 0", "type(33) = 1", "type(126) = 2", "type(32) = BAD_VALUE",
            "type(127) = BAD_VALUE", "clearText() = 2");
        Script.run("Promise 17: LIMIT if the text has 80 characters",
            "text(" + EIGHTY + ")", "type(57) = LIMIT", "type(33) = LIMIT", "type(126) = LIMIT",
            "syntaxError() = NONE", "clearText() = 80", "type(57) = 1");
        Script.run("Promise 17: with 79 characters there is room for one more",
            "text(" + EIGHTY.substring(0, 79) + ")", "syntaxError() = 79", "type(50) = 80", "type(50) = LIMIT",
            "readItems() = 9", "marble(8, 3) = 2");
        Script.run("Promise 17: BAD_VALUE, LIMIT, in this order",
            "text(" + EIGHTY + ")", "type(32) = BAD_VALUE", "type(127) = BAD_VALUE", "type(33) = LIMIT");
    }

    private static void promise18() throws Exception {
        Script.run("Promise 18: the previous length, from 0 to 80",
            "clearText() = 0", "clearText() = 0", "type(109) = 1", "clearText() = 1", "clearText() = 0",
            "syntaxError() = 0", "text(" + EIGHTY + ")", "clearText() = 80", "clearText() = 0", "type(109) = 1",
            "syntaxError() = 1");
    }

    private static void promise19Coordinates() throws Exception {
        for (String head : new String[] {"m", "r", "m3,", "r3,", "r1,1:1;m", "m0,0s1p0;r7,"}) {
            int at = head.length();
            String title = "Promise 19: x and y are 0 to 30, behind " + head;
            fault(title, head + "0", at + 1);
            fault(title, head + "9", at + 1);
            fault(title, head + "10", at + 2);
            fault(title, head + "29", at + 2);
            fault(title, head + "30", at + 2);
            fault(title, head + "31", at + 1);
            fault(title, head + "39", at + 1);
            fault(title, head + "40", at + 1);
            fault(title, head + "99", at + 1);
            fault(title, head + "300", at + 2);
            fault(title, head + "100", at + 2);
            fault(title, head + "000", at + 1);
            title = "Promise 19: x and y without leading zeros, behind " + head;
            fault(title, head + "00", at + 1);
            fault(title, head + "01", at + 1);
            fault(title, head + "09", at + 1);
            fault(title, head + "030", at + 1);
            title = "Promise 19: x and y are not empty and have no signs, behind " + head;
            fault(title, head + ",", at);
            fault(title, head + "-1", at);
            fault(title, head + "+1", at);
            fault(title, head + "/", at);
            fault(title, head + ":", at);
            fault(title, head + "3/", at + 1);
        }
    }

    private static void promise19Radius() throws Exception {
        String title = "Promise 19: radius is 1 to 15";
        fault(title, "r3,4:0", 5);
        fault(title, "r3,4:1", NONE);
        fault(title, "r3,4:2", NONE);
        fault(title, "r3,4:9", NONE);
        fault(title, "r3,4:10", NONE);
        fault(title, "r3,4:15", NONE);
        fault(title, "r3,4:16", 6);
        fault(title, "r3,4:19", 6);
        fault(title, "r3,4:20", 6);
        fault(title, "r3,4:90", 6);
        fault(title, "r3,4:100", 7);
        fault(title, "r3,4:150", 7);
        title = "Promise 19: radius without leading zeros";
        fault(title, "r3,4:00", 5);
        fault(title, "r3,4:01", 5);
        fault(title, "r3,4:015", 5);
        title = "Promise 19: radius is not empty";
        fault(title, "r3,4:", 5);
        fault(title, "r3,4:;", 5);
        fault(title, "r3,4:-1", 5);
    }

    private static void promise19SizeAndOwner() throws Exception {
        String title = "Promise 19: size is a digit from 1 to 3";
        fault(title, "m3,4s0p0", 5);
        fault(title, "m3,4s1p0", NONE);
        fault(title, "m3,4s3p0", NONE);
        fault(title, "m3,4s4p0", 5);
        fault(title, "m3,4s9p0", 5);
        fault(title, "m3,4sp0", 5);
        fault(title, "m3,4s10p0", 6);
        fault(title, "m3,4s11p0", 6);
        fault(title, "m3,4s01p0", 5);
        title = "Promise 19: owner is a digit from 0 to 2";
        fault(title, "m3,4s1p0", NONE);
        fault(title, "m3,4s1p2", NONE);
        fault(title, "m3,4s1p3", 7);
        fault(title, "m3,4s1p9", 7);
        fault(title, "m3,4s1p/", 7);
        fault(title, "m3,4s1p:", 7);
        fault(title, "m3,4s1p", 7);
        fault(title, "m3,4s1p00", 8);
        fault(title, "m3,4s1p01", 8);
        fault(title, "m3,4s1p10", 8);
        fault(title, "m3,4s1p20", 8);
    }

    private static void promise19Items() throws Exception {
        String title = "Promise 19: item { \";\" item }";
        fault(title, "", 0);
        fault(title, ";", 0);
        fault(title, "m1,2s3p0", NONE);
        fault(title, "m1,2s3p0;", 9);
        fault(title, "m1,2s3p0;;", 9);
        fault(title, "m1,2s3p0,", 8);
        fault(title, "m1,2s3p0m", 8);
        fault(title, "m1,2s3p0;r1,2:3", NONE);
        fault(title, "r1,2:3;m1,2s3p0", NONE);
        fault(title, "r1,2:3;", 7);
        fault(title, "r1,2:3r", 6);
        fault(title, "r1,2:15;r1,2:3;r1,2:15", NONE);
        fault(title, ";r1,2:3", 0);
        title = "Promise 19: no limit of the playground counts, neither for points nor for marbles and rings";
        fault(title, "m1,2s3p0;m1,2s3p0", NONE);
        fault(title, "r1,2:3;r1,2:3;r1,2:3;r1,2:3;r1,2:3", NONE);
        title = "Promise 19: the length of the text if it could go on";
        fault(title, "m", 1);
        fault(title, "m3", 2);
        fault(title, "m30", 3);
        fault(title, "m30,", 4);
        fault(title, "m30,3", 5);
        fault(title, "m30,30", 6);
        fault(title, "m30,30s", 7);
        fault(title, "m30,30s3", 8);
        fault(title, "m30,30s3p", 9);
        fault(title, "m30,30s3p2", NONE);
        fault(title, "r", 1);
        fault(title, "r3", 2);
        fault(title, "r3,", 3);
        fault(title, "r3,4", 4);
        fault(title, "r3,4:", 5);
    }

    private static void promise19Signs() throws Exception {
        String title = "Promise 19: each sign in its place";
        fault(title, "M3,4s1p0", 0);
        fault(title, "R3,4:1", 0);
        fault(title, "n3,4s1p0", 0);
        fault(title, "l3,4s1p0", 0);
        fault(title, "3,4s1p0", 0);
        fault(title, "mr3,4:1", 1);
        fault(title, "m3;4s1p0", 2);
        fault(title, "m3.4s1p0", 2);
        fault(title, "m3,,4s1p0", 3);
        fault(title, "m3,4S1p0", 4);
        fault(title, "m3,4p1s0", 4);
        fault(title, "m3,4:1", 4);
        fault(title, "m3,4s1P0", 6);
        fault(title, "m3,4s1s0", 6);
        fault(title, "m3,4s1;", 6);
        fault(title, "r3,4s1p0", 4);
        fault(title, "r3,4;1", 4);
        fault(title, "r3,4:1:", 6);
        fault(title, "r3,4:1;s", 7);
        fault(title, "!", 0);
        fault(title, "~", 0);
        title = "Promise 19: the first error, whatever stands behind it";
        fault(title, "m3,4s0p9x", 5);
        fault(title, "x;m3,4s1p0", 0);
        fault(title, "m3,4s1p0;x;m31", 9);
    }

    private static void promise19LongTexts() throws Exception {
        String title = "Promise 19: texts of 80 characters";
        fault(title, EIGHTY, NONE);
        fault(title, EIGHTY.substring(0, 79), 79);
        fault(title, EIGHTY.substring(0, 79) + "3", 79);
        fault(title, EIGHTY.substring(0, 72) + "m10,10s1", 80);
        fault(title, EIGHTY.substring(0, 72) + "m10,10s4", 79);
        fault(title, EIGHTY.substring(0, 72) + "r10,10:9", NONE);
        fault(title, EIGHTY.substring(0, 72) + "r9,10:15", NONE);
        fault(title, EIGHTY.substring(0, 72) + "r9,1:15;", 80);
        fault(title, EIGHTY.substring(0, 72) + "r9,1:150", 79);
        fault(title, "r0,0:1;".repeat(11) + "m30", 80);
        fault(title, "r0,0:1;".repeat(11) + "m31", 79);
        Script.run("Promise 19: the characters of an older text do not count",
            "text(m3,4s1p0)", "clearText() = 8", "syntaxError() = 0", "text(m3,4s1p)", "syntaxError() = 7",
            "text(" + EIGHTY + ")", "text(m3)", "syntaxError() = 2", "type(44) = 3", "syntaxError() = 3");
    }

    private static void fault(String title, String signs, int due) throws Exception {
        Script.run(title + ", " + signs, "text(" + signs + ")", "syntaxError() = " + due,
            due == NONE ? "syntaxError() = NONE" : "readItems() = BAD_TEXT", "clearText() = " + signs.length());
    }

    private static void promise20Texts() throws Exception {
        Script.run("Promise 20: BAD_TEXT of the empty text",
            "readItems() = BAD_TEXT", "undo() = NOT_POSSIBLE");
        Script.run("Promise 20: BAD_TEXT, and the text stays and nothing is put, up to its last character",
            "text(m3,4s1p0;r3,4:1;m5,4s1p3)", "readItems() = BAD_TEXT", "count(0) = 0", "count(1) = 0",
            "undo() = NOT_POSSIBLE", "clearText() = 24", "text(m3,4s1p0;)", "readItems() = BAD_TEXT",
            "syntaxError() = 9", "type(114) = 10", "clearText() = 10", "text(m3,4s1p)", "readItems() = BAD_TEXT",
            "type(50) = 8", "readItems() = 1", "marble(0, 3) = 2", "clearText() = 0", "undo() = 0");
        Script.run("Promise 20: from left to right, the smallest and the greatest numbers",
            "text(m0,30s3p0;r30,0:1;m30,0s1p2;r0,30:15)", "readItems() = 4", "marble(0, 0) = 0", "marble(0, 1) = 30",
            "marble(0, 2) = 3", "marble(0, 3) = 0", "marble(0, 5) = 2", "marble(1, 0) = 30", "marble(1, 1) = 0",
            "marble(1, 2) = 1", "marble(1, 3) = 2", "marble(1, 5) = 1", "ring(0, 0) = 30", "ring(0, 1) = 0",
            "ring(0, 2) = 1", "ring(1, 0) = 0", "ring(1, 1) = 30", "ring(1, 2) = 15", "count(3) = 0",
            "clearText() = 0", "readItems() = BAD_TEXT");
        Script.run("Promise 20: a text of one item and a text of 80 characters",
            "text(r3,4:15)", "readItems() = 1", "text(" + EIGHTY + ")", "readItems() = 9", "count(0) = 9",
            "at(8, 0) = 8", "clearText() = 0", "undo() = 1", "count(0) = 0", "count(1) = 1");
    }

    private static void promise20EndsAtTheFirstRefusal() throws Exception {
        Script.run("Promise 20: the first item is refused",
            "putMarble(5, 5, 1, 0) = 0", "text(m5,5s2p1;m6,6s1p0;r1,1:1)", "readItems() = 0", "count(0) = 1",
            "count(1) = 0", "at(6, 6) = NONE", "marble(0, 2) = 1", "clearText() = 0");
        Script.run("Promise 20: an item in the midst is refused, the ones behind it are not put",
            "text(m5,5s1p0;m5,5s1p0;m6,6s1p0;r1,1:1)", "readItems() = 1", "count(0) = 1", "count(1) = 0",
            "at(6, 6) = NONE", "clearText() = 0");
        Script.run("Promise 20: the last item is refused, and none is",
            "text(m5,5s1p0;m6,6s1p0;m5,5s3p2)", "readItems() = 2", "count(0) = 2", "text(m7,7s1p0;m7,8s3p2)",
            "readItems() = 2", "count(0) = 4");
        Script.run("Promise 20: the point of a marble that was won is free",
            "drawRing(10, 10, 1) = 0", "putMarble(10, 10, 1, 1) = 0", "putMarble(9, 10, 1, 0) = 1",
            "flick(1, 2, 2) = 1", "text(m10,10s2p2;m12,10s2p2;m9,10s2p2)", "readItems() = 2", "at(10, 10) = 2",
            "at(12, 10) = 3", "at(9, 10) = 1", "count(0) = 4");
    }

    private static void promise20Limits() throws Exception {
        Script.run("Promise 20: a twelfth marble is put, a thirteenth is not, nor what stands behind it",
            "text(" + EIGHTY + ")", "readItems() = 9", "text(m0,1s1p0;m1,1s1p0;m2,1s1p0)", "readItems() = 3",
            "count(0) = 12", "text(m3,1s1p0;r1,1:1)", "readItems() = 0", "count(0) = 12", "count(1) = 0",
            "undo() = 2", "undo() = 1", "count(0) = 9", "text(m0,1s1p0;m1,1s1p0;m2,1s1p0;m3,1s1p0;r1,1:1)",
            "readItems() = 3", "count(0) = 12", "count(1) = 0", "text(r1,1:1;m3,1s1p0)", "readItems() = 1",
            "count(1) = 1");
        Script.run("Promise 20: a fourth ring is drawn, a fifth is not, nor what stands behind it",
            "text(r1,1:1;r1,1:2;r1,1:3)", "readItems() = 3", "text(r1,1:4)", "readItems() = 1", "count(1) = 4",
            "text(r1,1:5;m0,0s1p0)", "readItems() = 0", "count(1) = 4", "count(0) = 0", "undo() = 2", "undo() = 1",
            "text(r1,1:4;r1,1:5;m0,0s1p0)", "readItems() = 1", "count(1) = 4", "ring(3, 2) = 4", "count(0) = 0",
            "text(m0,0s1p0;r1,1:5)", "readItems() = 1", "count(0) = 1");
    }

    private static void promise20SavesOneState() throws Exception {
        Script.run("Promise 20: one state is saved for the whole call",
            "pass() = 1", "text(m0,0s1p0;m1,0s1p0;r1,1:1;m2,0s1p0)", "readItems() = 4", "undo() = 1", "count(0) = 0",
            "count(1) = 0", "count(2) = 1", "undo() = 0", "count(2) = 0", "undo() = NOT_POSSIBLE");
        Script.run("Promise 20: one state is saved also if nothing is put, and undo does not bring the text back",
            "putMarble(0, 0, 1, 0) = 0", "text(m0,0s1p0)", "readItems() = 0", "syntaxError() = 0", "undo() = 1",
            "count(0) = 1", "clearText() = 0", "undo() = 0", "count(0) = 0", "undo() = NOT_POSSIBLE");
    }
}
