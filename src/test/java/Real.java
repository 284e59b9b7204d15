/** BottleLine called by name, a boolean answered as 1 or 0. */
final class Real {
    private Real() {
    }

    static long call(BottleLine x, String what, long... a) {
        int[] i = new int[7];
        for (int k = 0; k < a.length; k++) {
            i[k] = (int) a[k];
        }
        return switch (what) {
            case "status" -> x.status();
            case "top" -> x.top();
            case "bottom" -> x.bottom();
            case "tray" -> x.tray(i[0], i[1], i[2]) ? 1 : 0;
            case "write" -> x.write(i[0], i[1], a[2]) ? 1 : 0;
            case "read" -> x.read(i[0], i[1]);
            case "pour" -> x.pour(i[0], i[1], i[2], i[3], i[4]) ? 1 : 0;
            case "feed" -> x.feed(i[0], i[1], i[2], i[3], i[4]);
            case "line" -> x.line(i[0]);
            case "shift" -> x.shift(i[0]);
            case "fault" -> x.fault(i[0]);
            case "many" -> x.many(i[0]);
            case "machine" -> x.machine(i[0], i[1]);
            case "table" -> x.table(i[0], i[1]);
            case "wash" -> x.wash(i[0], i[1]);
            case "begin" -> x.begin(i[0]) ? 1 : 0;
            case "run" -> x.run(i[0]);
            case "minutes" -> x.minutes(i[0], i[1]);
            case "blame" -> x.blame(i[0], i[1]);
            case "share" -> x.share(i[0]) ? 1 : 0;
            case "tried" -> x.tried(i[0], i[1], i[2]);
            case "holder" -> x.holder(i[0], i[1]);
            case "gained" -> x.gained();
            case "shared" -> x.shared(i[0], i[1], i[2]);
            case "unit" -> x.unit(i[0]);
            case "waits" -> x.waits(i[0], i[1], i[2]);
            case "unwaited" -> x.unwaited(i[0], i[1]);
            case "work" -> x.work();
            case "worked" -> x.worked(i[0]);
            case "heads" -> x.heads(i[0], i[1], i[2]);
            case "head" -> x.head(i[0]);
            case "brief" -> x.brief(i[0], i[1], i[2], i[3], i[4]);
            case "glass" -> x.glass(i[0], i[1]);
            case "order" -> x.order(i[0], i[1]);
            case "ordered" -> x.ordered(i[0]);
            case "closes" -> x.closes(i[0]);
            case "recall" -> x.recall(i[0], i[1], i[2], i[3], i[4], i[5]);
            case "shifts" -> x.shifts(i[0], i[1], i[2]);
            case "shiftOf" -> x.shiftOf(i[0]);
            case "lot" -> x.lot(i[0], i[1], i[2]);
            case "torn" -> x.torn(i[0], i[1], i[2]) ? 1 : 0;
            case "mark" -> x.mark();
            case "back" -> x.back();
            default -> throw new IllegalArgumentException(what);
        };
    }

    /** The ints of a feed that bring these bytes, 20 at a time; bytes that are missing at the end are 0. */
    static long[][] feeds(String text) {
        long[][] feeds = new long[(text.length() + 19) / 20][5];
        for (int k = 0; k < text.length(); k++) {
            long[] feed = feeds[k / 20];
            feed[k % 20 / 4] |= (long) (text.charAt(k) & 255) << 24 - k % 4 * 8;
        }
        return feeds;
    }
}
