/** A call of the class by its name. */
final class Calls {
    private Calls() {
    }

    static int call(TideDebts x, String name, long[] a) {
        int[] n = new int[5];
        for (int i = 0; i < a.length; i++) {
            n[i] = (int) a[i];
        }
        return switch (name) {
            case "row" -> x.row(n[0], n[1], n[2]);
            case "set" -> x.set(n[0], n[1], n[2]);
            case "copy" -> x.copy(n[0], n[1], n[2], n[3], n[4]);
            case "drop" -> x.drop(n[0]);
            case "feed" -> x.feed(a[0], n[1]);
            case "bay" -> x.bay();
            case "fault" -> x.fault();
            case "hours" -> x.hours(n[0]);
            case "lend" -> x.lend(n[0], n[1], n[2]);
            case "pay" -> x.pay(n[0], n[1], n[2]);
            case "storm" -> x.storm(n[0]);
            case "settle" -> x.settle();
            case "undo" -> x.undo();
            case "water" -> x.water(n[0], n[1]);
            case "owes" -> x.owes(n[0], n[1]);
            case "ahead" -> x.ahead(n[0], n[1], n[2]);
            case "sail" -> x.sail(n[0], n[1], n[2], n[3]);
            case "net" -> x.net(n[0], n[1]);
            case "least" -> x.least(n[0], n[1], n[2], n[3]);
            case "run" -> x.run();
            case "frauds" -> x.frauds(n[0], n[1]);
            case "image" -> x.image(n[0]);
            case "restore" -> x.restore(n[0]);
            case "kind" -> x.kind(n[0]);
            case "as" -> x.as(n[0], n[1]);
            case "ask" -> x.ask(n[0], n[1]);
            case "trace" -> x.trace(n[0]);
            case "count" -> x.count(n[0]);
            case "status" -> x.status();
            default -> throw new IllegalArgumentException(name);
        };
    }
}
