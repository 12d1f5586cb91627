/** Makes objects for the tests and reads whole tables from them. */
final class Shops {
    private Shops() {
    }

    static OpenShop of(int[][] times) {
        OpenShop shop = new OpenShop();
        write(shop, times);
        return shop;
    }

    static void write(OpenShop shop, int[][] times) {
        shop.setSize(times.length, times[0].length);
        for (int job = 0; job < times.length; job++) {
            for (int machine = 0; machine < times[0].length; machine++) {
                shop.set(job, machine, times[job][machine]);
            }
        }
    }

    static void sameTable(String what, OpenShop shop, int[][] due) {
        Check.same(what + ": jobs()", shop.jobs(), due.length);
        Check.same(what + ": machines()", shop.machines(), due[0].length);
        for (int job = 0; job < due.length; job++) {
            for (int machine = 0; machine < due[0].length; machine++) {
                Check.same(what + ": time(" + job + ", " + machine + ")",
                        shop.time(job, machine), due[job][machine]);
            }
        }
    }

    /** A table of a size with all times different from their neighbours, and none 0. */
    static OpenShop patterned(int jobs, int machines) {
        OpenShop shop = new OpenShop();
        shop.setSize(jobs, machines);
        for (int job = 0; job < jobs; job++) {
            shop.setJob(job, 31 * job % 97 + 1, 19);
        }
        return shop;
    }

    /** The greatest time everywhere. */
    static OpenShop fullest(int jobs, int machines) {
        OpenShop shop = new OpenShop();
        shop.setSize(jobs, machines);
        for (int job = 0; job < jobs; job++) {
            shop.setJob(job, 99, 0);
        }
        return shop;
    }

    /** The table that the comments of the tests take apart by hand. */
    static OpenShop small() {
        return of(new int[][] {{3, 1}, {2, 4}});
    }
}
