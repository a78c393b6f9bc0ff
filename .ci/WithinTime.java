/**
 * Runs the main method of a test: WithinTime SECONDS NAME. A call that never ends would hold up the
 * whole run for ever; here its test has failed when the seconds are over.
 */
public final class WithinTime {
    public static void main(String[] args) throws Exception {
        long limit = 1000L * Integer.parseInt(args[0]);
        String name = args[1];
        Thread watch = new Thread(() -> haltAfter(limit, name));
        watch.setDaemon(true);
        watch.start();
        Class.forName(name).getMethod("main", String[].class).invoke(null, (Object) new String[0]);
    }

    private static void haltAfter(long limit, String name) {
        try {
            Thread.sleep(limit);
        } catch (InterruptedException e) {
            // Nobody interrupts the watch; if somebody did, the test would be over all the same.
        }
        System.out.println(name + " has not ended after " + limit / 1000 + " seconds");
        System.out.flush();
        Runtime.getRuntime().halt(1);
    }
}
